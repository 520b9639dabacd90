/-! what a call of the law does to the two objects, whatever they hold -/
def jI (S : zS) : Prop := LX7 S.1 0 ∧ LX8 S.1 200 ∧ vp_in (S.2.1 25 1) 8 ∧ jJ 200 S.2.1 ∧ tpe 0 200 S.2.1 S.2.1 ∧ flt 0 200 S.2.1 S.2.1 ∧ eqE 0 200 S.2.1 S.2.1 ∧ oX 0 200 S.2.1 S.2.1
theorem tpe.k {A A' B B' : zMt} (h : tpe 0 200 A B) (a : ∀ r j, ((r = 0 ∧ j = 1) ∨ r = 1) → A' r j = A r j) (b : ∀ r j, ((r = 200 ∧ j = 11) ∨ r = 207) → B' r j = B r j) : tpe 0 200 A' B' := by
  obtain ⟨m, h1, h2, h3, h4⟩ := h
  refine ⟨m, h1, (a 0 1 (by omega)).trans h2, (b 200 11 (by omega)).trans h3, fun k hk => ?_⟩
  have e1 : A' (0 + 1) k = A (0 + 1) k := a 1 k (by omega)
  have e2 : B' (200 + 7) k = B (200 + 7) k := b 207 k (by omega)
  rw [e1, e2]
  exact h4 k hk
theorem flt.k {A A' B B' : zMt} (h : flt 0 200 A B) (a : ∀ j, (j = 1 ∨ j = 2) → A' 3 j = A 3 j) (b : ∀ j, (j = 13 ∨ j = 14) → B' 200 j = B 200 j) : flt 0 200 A' B' :=
  ⟨(a 1 (by omega)).trans (h.1.trans (b 13 (by omega)).symm), (a 2 (by omega)).trans (h.2.trans (b 14 (by omega)).symm)⟩
theorem jI.cls {L : List zC} {M M' : zMt} {N N' : zNt} (h : jI (L, M, N)) (hf : ∀ a j, (200 ≤ a ∨ (a = 0 ∧ j = 1) ∨ a = 1 ∨ (a = 3 ∧ (j = 1 ∨ j = 2)) ∨ (17 ≤ a ∧ a < 104) ∨ (a = 0 ∧ j = 2) ∨ a = 2) → M' a j = M a j) : jI (L, M', N') :=
  ⟨h.1, h.2.1, by show vp_in (M' 25 1) 8; rw [hf 25 1 (by omega)]; exact h.2.2.1, h.2.2.2.1.mono (fun a j q => hf a j (by omega)), h.2.2.2.2.1.k (fun a j q => hf a j (by omega)) (fun a j q => hf a j (by omega)), h.2.2.2.2.2.1.k (fun j q => hf 3 j (by omega)) (fun j q => hf 200 j (by omega)), h.2.2.2.2.2.2.1.k (fun i j _ _ => hf i j (by omega)) (fun i j q => hf i j (by omega)), h.2.2.2.2.2.2.2.k (fun i j q => hf i j (by omega)) (fun i j q => hf i j (by omega))⟩
theorem jI.mod {L : List zC} {M M' : zMt} {N N' : zNt} (h : jI (L, M, N)) (hf : ∀ a j, (a < 200 ∨ (a = 200 ∧ (j = 7 ∨ j = 8 ∨ j = 9 ∨ j = 11 ∨ j = 13 ∨ j = 14)) ∨ a = 204 ∨ a = 205 ∨ a = 207 ∨ (a = 200 ∧ j = 64) ∨ a = 232) → M' a j = M a j) (h1 : ∀ j, j < 82 → M' 201 j = M 201 j) (hJ : jJ 200 M') : jI (L, M', N') :=
  ⟨h.1, h.2.1, by show vp_in (M' 25 1) 8; rw [hf 25 1 (by omega)]; exact h.2.2.1, hJ, h.2.2.2.2.1.k (fun a j q => hf a j (by omega)) (fun a j q => hf a j (by omega)), h.2.2.2.2.2.1.k (fun j q => hf 3 j (by omega)) (fun j q => hf 200 j (by omega)), h.2.2.2.2.2.2.1.k (fun i j _ _ => hf i j (by omega)) (fun i j q => by
    by_cases z : i = 201
    · subst z; exact h1 j (by omega)
    · exact hf i j (by omega)), h.2.2.2.2.2.2.2.k (fun i j q => hf i j (by omega)) (fun i j q => hf i j (by omega))⟩
theorem jI.at {S S' : zS} (h : jI S) (e : S' = S) : jI S' := e ▸ h
theorem f_status {l : Launch} {G : zG} {b : Nat} {S : zS} (h : jI S) : zM l G b yX7_status cX7_status 1 (some .int) 0 0 0 [.ref 0] S (fun r z => (∃ v, r = some (.int v)) ∧ jI z) := by
  obtain ⟨L, M, N⟩ := S
  obtain ⟨r, e, q⟩ := v_X7_status (P := 0) (M := M)
  refine zM.weaken (t_X7_status (L := L) (N := N) h.1 e) (fun r2 z q2 => ?_)
  obtain ⟨rfl, rfl⟩ := q2
  exact ⟨⟨_, rfl⟩, h⟩
theorem m_status {l : Launch} {G : zG} {b : Nat} {S : zS} (h : jI S) : zM l G b yX8_status cX8_status 1 (some .int) 0 0 0 [.ref 200] S (fun r z => (∃ v, r = some (.int v)) ∧ jI z) := by
  obtain ⟨L, M, N⟩ := S
  obtain ⟨r, e, q⟩ := v_X8_status (P := 200) (M0 := M)
  refine zM.weaken (t_X8_status (L := L) (N := N) h.2.1 e) (fun r2 z q2 => ?_)
  obtain ⟨rfl, rfl⟩ := q2
  exact ⟨⟨_, rfl⟩, h.mod (fun a j hh => q a j (by unfold WM_X8_status; omega)) (fun j _ => q 201 j (by unfold WM_X8_status; omega)) (h.2.2.2.1.mono (fun a j hh => q a j (by unfold WM_X8_status; omega)))⟩
theorem f_feed {l : Launch} {G : zG} {b : Nat} {S : zS} {v0 : Int32} {v1 : Int32} {v2 : Int32} {v3 : Int32} {v4 : Int32} (h : jI S) : zM l G b yX7_feed cX7_feed 6 (some .int) 2 0 0 [.ref 0, .int v0, .int v1, .int v2, .int v3, .int v4] S (fun r z => ∃ e, D_X7_feed 0 v0 v1 v2 v3 v4 S.2.1 = some e ∧ r = some (.int e.1) ∧ z = (S.1, e.2, S.2.2)) := by
  obtain ⟨L, M, N⟩ := S
  obtain ⟨e, he, -⟩ := v_X7_feed (P := 0) (M0 := M) (v0 := v0) (v1 := v1) (v2 := v2) (v3 := v3) (v4 := v4)
  exact zM.weaken (t_X7_feed (L := L) (N := N) h.1 he) (fun r2 z q => ⟨e, he, q.1, q.2⟩)
theorem m_feed {l : Launch} {G : zG} {b : Nat} {S : zS} {v0 : Int32} {v1 : Int32} {v2 : Int32} {v3 : Int32} {v4 : Int32} (h : jI S) {e} (he : D_X7_feed 0 v0 v1 v2 v3 v4 S.2.1 = some e) : zM l G b yX8_feed cX8_feed 6 (some .int) 1 0 0 [.ref 200, .int v0, .int v1, .int v2, .int v3, .int v4] (S.1, e.2, S.2.2) (fun r z => r = some (.int e.1) ∧ jI z) := by
  obtain ⟨L, M, N⟩ := S
  obtain ⟨h7, h8, hv, hJ, hT, hF, hE, hO⟩ := h
  have he : D_X7_feed 0 v0 v1 v2 v3 v4 M = some e := he
  have hv : vp_in (M 25 1) 8 := hv
  have hJ : jJ 200 M := hJ
  have hT : tpe 0 200 M M := hT
  have hF : flt 0 200 M M := hF
  have hE : eqE 0 200 M M := hE
  have hO : oX 0 200 M M := hO
  obtain ⟨e', he', kc, -⟩ := v_X7_feed (P := 0) (M0 := M) (v0 := v0) (v1 := v1) (v2 := v2) (v3 := v3) (v4 := v4)
  rw [he] at he'
  cases he'
  have kc : ∀ a j, (200 ≤ a ∨ a = 3 ∨ (17 ≤ a ∧ a < 104) ∨ (a = 0 ∧ j = 2) ∨ a = 2) → e.2 a j = M a j := fun a j hh => kc a j (by unfold WM_X7_feed; omega)
  have hJ' : jJ 200 e.2 := hJ.mono (fun a j q => kc a j (by omega))
  have hE' : eqE 0 200 M e.2 := hE.k (fun _ _ _ _ => rfl) (fun i j q => kc i j (by omega))
  have hT' : tpe 0 200 M e.2 := hT.k (fun _ _ _ => rfl) (fun a j q => kc a j (by omega))
  obtain ⟨a, ea, b, eb, hab, htp⟩ := t_feed hT' (v0 := v0) (v1 := v1) (v2 := v2) (v3 := v3) (v4 := v4)
  rw [he] at ea
  cases ea
  obtain ⟨b', eb', kb, hjT, -⟩ := v_X8_feed (P := 200) (M0 := e.2) (v0 := v0) (v1 := v1) (v2 := v2) (v3 := v3) (v4 := v4) hJ'.2.2.2.2
  rw [eb] at eb'
  cases eb'
  have kb : ∀ a j, (a < 200 ∨ (a = 200 ∧ (j = 7 ∨ j = 8 ∨ j = 9 ∨ j = 13 ∨ j = 14 ∨ j = 33)) ∨ a = 201 ∨ a = 204 ∨ a = 205 ∨ a = 219 ∨ (a = 200 ∧ j = 64) ∨ a = 232) → b.2 a j = e.2 a j := fun a j hh => kb a j (by unfold WM_X8_feed; omega)
  have hJ2 : jJ 200 b.2 := ⟨hJ'.1.mono (fun a j q => kb a j (by omega)), hJ'.2.1.mono (fun a j q => kb a j (by omega)), hJ'.2.2.1.mono (fun a j q => kb a j (by omega)), hJ'.2.2.2.1.mono (fun a j q => kb a j (by omega)), hjT⟩
  have hE2 : eqE 0 200 b.2 b.2 := hE.k (fun i j _ _ => (kb i j (by omega)).trans (kc i j (by omega))) (fun i j q => (kb i j (by omega)).trans (kc i j (by omega)))
  refine zM.weaken (t_X8_feed (L := L) (N := N) h8 eb) (fun r2 z q2 => ?_)
  obtain ⟨rfl, rfl⟩ := q2
  have hab2 : e.1 = b.1 := hab
  have hX2 : oX 0 200 b.2 b.2 := hO.k (fun i j q => (kb i j (by omega)).trans (kc i j (by omega))) (fun i j q => (kb i j (by omega)).trans (kc i j (by omega)))
  exact ⟨by rw [hab2], h7, h8, hE2.vp, hJ2, htp.k (fun a j q => kb a j (by omega)) (fun _ _ _ => rfl), hF.k (fun j q => (kb 3 j (by omega)).trans (kc 3 j (by omega))) (fun j q => (kb 200 j (by omega)).trans (kc 200 j (by omega))), hE2, hX2⟩
theorem f_load {l : Launch} {G : zG} {b : Nat} {S : zS} {v0 : Int32} (h : jI S) : zM l G b yX7_load cX7_load 3 (some .int) 10 0 0 [.ref 0, .int v0] S (fun r z => ∃ e, D_X7_load 0 v0 S.2.1 S.2.2 = some e ∧ r = some (.int e.1) ∧ z = (S.1, e.2.1, e.2.2)) := by
  obtain ⟨L, M, N⟩ := S
  obtain ⟨e, he, -⟩ := v_X7_load (P := 0) (M0 := M) (N0 := N) (v0 := v0)
  exact zM.weaken (t_X7_load (L := L) (N := N) h.1 he) (fun r2 z q => ⟨e, he, q.1, q.2⟩)
theorem m_load {l : Launch} {G : zG} {b : Nat} {S : zS} {v0 : Int32} (h : jI S) {e} (he : D_X7_load 0 v0 S.2.1 S.2.2 = some e) : zM l G b yX8_load cX8_load 4 (some .int) 9 0 0 [.ref 200, .int v0] (S.1, e.2.1, e.2.2) (fun r z => r = some (.int e.1) ∧ jI z) := by
  obtain ⟨L, M, N⟩ := S
  obtain ⟨h7, h8, hv, hJ, hT, hF, hE, hO⟩ := h
  have he : D_X7_load 0 v0 M N = some e := he
  have hv : vp_in (M 25 1) 8 := hv
  have hJ : jJ 200 M := hJ
  have hT : tpe 0 200 M M := hT
  have hF : flt 0 200 M M := hF
  have hE : eqE 0 200 M M := hE
  have hO : oX 0 200 M M := hO
  obtain ⟨e', he', kc, -⟩ := v_X7_load (P := 0) (M0 := M) (N0 := N) (v0 := v0)
  rw [he] at he'
  cases he'
  have kc : ∀ a j, (200 ≤ a ∨ a = 1 ∨ (a = 0 ∧ j = 2) ∨ a = 2) → e.2.1 a j = M a j := fun a j hh => kc a j (by unfold WM_X7_load; omega)
  have hJ' : jJ 200 e.2.1 := hJ.mono (fun a j q => kc a j (by omega))
  have hE' : eqE 0 200 M e.2.1 := hE.k (fun _ _ _ _ => rfl) (fun i j q => kc i j (by omega))
  have hT' : tpe 0 200 M e.2.1 := hT.k (fun _ _ _ => rfl) (fun a j q => kc a j (by omega))
  have hF' : flt 0 200 M e.2.1 := hF.k (fun _ _ => rfl) (fun j q => kc 200 j (by omega))
  obtain ⟨a, ea, b, eb, hab, hfl, hEq, hth⟩ := t_loadE hT' hJ' hF' hE' (NA := N) (NB := e.2.2) (v0 := v0)
  rw [he] at ea
  cases ea
  obtain ⟨b', eb', kb, -, hJ2, g⟩ := v_X8_load (P := 200) (M0 := e.2.1) (N0 := e.2.2) (v0 := v0) hJ'.1 hJ'.2.1 hJ'.2.2.1 hJ'.2.2.2.1 hJ'.2.2.2.2
  rw [eb] at eb'
  cases eb'
  have kb : ∀ a j, (a < 200 ∨ (a = 200 ∧ j = 64) ∨ a = 232) → b.2.1 a j = e.2.1 a j := fun a j hh => kb a j (by unfold WM_X8_load; omega)
  have w7 : ((v0 < 0 ∨ ¬ v0 ≤ M 0 1) ∧ e.2.1 0 1 = M 0 1) ∨ (¬ v0 < 0 ∧ v0 ≤ M 0 1) ∧ e.2.1 0 1 = 0 := by
    obtain ⟨e9, he9, g9⟩ := w_X7_load (P := 0) (M0 := M) (N0 := N) (v0 := v0)
    rw [he] at he9
    cases he9
    exact g9
  have k1 : ∀ j, e.2.1 1 j = M 1 j := fun j => kc 1 j (by omega)
  have k207 : ∀ j, b.2.1 207 j = M 207 j := fun j => by
    obtain ⟨b9, hb9, k9, -⟩ := v_X8_load (P := 200) (M0 := e.2.1) (N0 := e.2.2) (v0 := v0) hJ'.1 hJ'.2.1 hJ'.2.2.1 hJ'.2.2.2.1 hJ'.2.2.2.2
    rw [eb] at hb9
    cases hb9
    exact (k9 207 j (by unfold WM_X8_load; omega)).trans (kc 207 j (by omega))
  have tpe0 : tpe 0 200 b.2.1 b.2.1 := by
    obtain ⟨m, h1, h2, h3, h4⟩ := hT
    have e11 : e.2.1 200 11 = M 200 11 := kc 200 11 (by omega)
    rw [e11, h3] at g
    rw [h2] at w7
    have b01 : b.2.1 0 1 = e.2.1 0 1 := kb 0 1 (by omega)
    rcases w7 with ⟨g1, g2⟩ | ⟨g1, g2⟩
    · rcases g with ⟨f1, f2⟩ | ⟨f1, f2⟩
      · refine ⟨m, h1, b01.trans g2, f2, fun k hk => ?_⟩
        have e1 : b.2.1 (0 + 1) k = M (0 + 1) k := (kb 1 k (by omega)).trans (k1 k)
        have e2 : b.2.1 (200 + 7) k = M (200 + 7) k := k207 k
        rw [e1, e2]
        exact h4 k hk
      · exact absurd g1 (fun z => z.elim f1.1 (fun y => y f1.2))
    · rcases g with ⟨f1, f2⟩ | ⟨f1, f2⟩
      · exact absurd f1 (fun z => z.elim g1.1 (fun y => y g1.2))
      · exact ⟨0, by omega, b01.trans (g2.trans (by decide)), f2.trans (by decide), fun k hk => by omega⟩
  have hE2 : eqE 0 200 b.2.1 b.2.1 := eqE.k (A := e.2.1) (B := b.2.1) hEq (fun i j _ _ => kb i j (by omega)) (fun _ _ _ => rfl)
  refine zM.weaken (t_X8_load (L := L) (N := e.2.2) h8 eb) (fun r2 z q2 => ?_)
  obtain ⟨rfl, rfl⟩ := q2
  have hab2 : e.1 = b.1 := hab
  have hX2 : oX 0 200 b.2.1 b.2.1 := hO.k (fun i j q => (kb i j (by omega)).trans (kc i j (by omega))) (fun i j q => (kb i j (by omega)).trans (kc i j (by omega)))
  exact ⟨by rw [hab2], h7, h8, hE2.vp, hJ2, tpe0, hfl.k (fun j q => kb 3 j (by omega)) (fun _ _ => rfl), hE2, hX2⟩
theorem f_fault {l : Launch} {G : zG} {b : Nat} {S : zS} {v0 : Int32} (h : jI S) : zM l G b yX7_fault cX7_fault 2 (some .int) 0 0 0 [.ref 0, .int v0] S (fun r z => (∃ v, r = some (.int v)) ∧ jI z) := by
  obtain ⟨L, M, N⟩ := S
  obtain ⟨r, e, q⟩ := v_X7_fault (P := 0) (M := M) (v0 := v0)
  refine zM.weaken (t_X7_fault (L := L) (N := N) h.1 e) (fun r2 z q2 => ?_)
  obtain ⟨rfl, rfl⟩ := q2
  exact ⟨⟨_, rfl⟩, h⟩
theorem m_fault {l : Launch} {G : zG} {b : Nat} {S : zS} {v0 : Int32} (h : jI S) : zM l G b yX8_fault cX8_fault 2 (some .int) 0 0 0 [.ref 200, .int v0] S (fun r z => (∃ v, r = some (.int v)) ∧ jI z) := by
  obtain ⟨L, M, N⟩ := S
  obtain ⟨r, e, q⟩ := v_X8_fault (P := 200) (M0 := M) (v0 := v0)
  refine zM.weaken (t_X8_fault (L := L) (N := N) h.2.1 e) (fun r2 z q2 => ?_)
  obtain ⟨rfl, rfl⟩ := q2
  exact ⟨⟨_, rfl⟩, h.mod (fun a j hh => q a j (by unfold WM_X8_fault; omega)) (fun j _ => q 201 j (by unfold WM_X8_fault; omega)) (h.2.2.2.1.mono (fun a j hh => q a j (by unfold WM_X8_fault; omega)))⟩
theorem f_many {l : Launch} {G : zG} {b : Nat} {S : zS} {v0 : Int32} (h : jI S) : zM l G b yX7_many cX7_many 2 (some .int) 1 0 0 [.ref 0, .int v0] S (fun r z => (∃ v, r = some (.int v)) ∧ jI z) := by
  obtain ⟨L, M, N⟩ := S
  obtain ⟨r, e, q⟩ := v_X7_many (P := 0) (M0 := M) (v0 := v0)
  refine zM.weaken (t_X7_many (L := L) (N := N) h.1 e) (fun r2 z q2 => ?_)
  obtain ⟨rfl, rfl⟩ := q2
  exact ⟨⟨_, rfl⟩, h.cls (fun a j hh => q a j (by unfold WM_X7_many; omega))⟩
theorem m_many {l : Launch} {G : zG} {b : Nat} {S : zS} {v0 : Int32} (h : jI S) : zM l G b yX8_many cX8_many 4 (some .int) 3 0 0 [.ref 200, .int v0] S (fun r z => (∃ v, r = some (.int v)) ∧ jI z) := by
  obtain ⟨L, M, N⟩ := S
  obtain ⟨r, e, q⟩ := v_X8_many (P := 200) (M0 := M) (v0 := v0) h.2.2.2.1.1 h.2.2.2.1.2.1 h.2.2.2.1.2.2.1 h.2.2.2.1.2.2.2.1 h.2.2.2.1.2.2.2.2
  refine zM.weaken (t_X8_many (L := L) (N := N) h.2.1 e) (fun r2 z q2 => ?_)
  obtain ⟨rfl, rfl⟩ := q2
  exact ⟨⟨_, rfl⟩, h.mod (fun a j hh => q.1 a j (by unfold WM_X8_many; omega)) (fun j _ => q.1 201 j (by unfold WM_X8_many; omega)) (q.2)⟩
theorem f_hunter {l : Launch} {G : zG} {b : Nat} {S : zS} {v0 : Int32} {v1 : Int32} (h : jI S) : zM l G b yX7_hunter cX7_hunter 3 (some .int) 1 0 0 [.ref 0, .int v0, .int v1] S (fun r z => (∃ v, r = some (.int v)) ∧ jI z) := by
  obtain ⟨L, M, N⟩ := S
  obtain ⟨r, e, q⟩ := v_X7_hunter (P := 0) (M0 := M) (v0 := v0) (v1 := v1)
  refine zM.weaken (t_X7_hunter (L := L) (N := N) h.1 e) (fun r2 z q2 => ?_)
  obtain ⟨rfl, rfl⟩ := q2
  exact ⟨⟨_, rfl⟩, h.cls (fun a j hh => q a j (by unfold WM_X7_hunter; omega))⟩
theorem m_hunter {l : Launch} {G : zG} {b : Nat} {S : zS} {v0 : Int32} {v1 : Int32} (h : jI S) : zM l G b yX8_hunter cX8_hunter 3 (some .int) 4 0 0 [.ref 200, .int v0, .int v1] S (fun r z => (∃ v, r = some (.int v)) ∧ jI z) := by
  obtain ⟨L, M, N⟩ := S
  obtain ⟨r, e, q⟩ := v_X8_hunter (P := 200) (M0 := M) (v0 := v0) (v1 := v1) h.2.2.2.1.1 h.2.2.2.1.2.1 h.2.2.2.1.2.2.1 h.2.2.2.1.2.2.2.1 h.2.2.2.1.2.2.2.2
  refine zM.weaken (t_X8_hunter (L := L) (N := N) h.2.1 e) (fun r2 z q2 => ?_)
  obtain ⟨rfl, rfl⟩ := q2
  exact ⟨⟨_, rfl⟩, h.mod (fun a j hh => q.1 a j (by unfold WM_X8_hunter; omega)) (fun j _ => q.1 201 j (by unfold WM_X8_hunter; omega)) (q.2)⟩
theorem f_unit {l : Launch} {G : zG} {b : Nat} {S : zS} {v0 : Int32} {v1 : Int32} (h : jI S) : zM l G b yX7_unit cX7_unit 3 (some .int) 4 0 0 [.ref 0, .int v0, .int v1] S (fun r z => (∃ v, r = some (.int v)) ∧ jI z) := by
  obtain ⟨L, M, N⟩ := S
  obtain ⟨r, e, q⟩ := v_X7_unit (P := 0) (M0 := M) (v0 := v0) (v1 := v1)
  refine zM.weaken (t_X7_unit (L := L) (N := N) h.1 e) (fun r2 z q2 => ?_)
  obtain ⟨rfl, rfl⟩ := q2
  exact ⟨⟨_, rfl⟩, h.cls (fun a j hh => q a j (by unfold WM_X7_unit; omega))⟩
theorem m_unit {l : Launch} {G : zG} {b : Nat} {S : zS} {v0 : Int32} {v1 : Int32} (h : jI S) : zM l G b yX8_unit cX8_unit 6 (some .int) 3 0 0 [.ref 200, .int v0, .int v1] S (fun r z => (∃ v, r = some (.int v)) ∧ jI z) := by
  obtain ⟨L, M, N⟩ := S
  obtain ⟨r, e, q⟩ := v_X8_unit (P := 200) (M0 := M) (v0 := v0) (v1 := v1) h.2.2.2.1.1 h.2.2.2.1.2.1 h.2.2.2.1.2.2.1 h.2.2.2.1.2.2.2.1 h.2.2.2.1.2.2.2.2
  refine zM.weaken (t_X8_unit (L := L) (N := N) h.2.1 e) (fun r2 z q2 => ?_)
  obtain ⟨rfl, rfl⟩ := q2
  exact ⟨⟨_, rfl⟩, h.mod (fun a j hh => q.1 a j (by unfold WM_X8_unit; omega)) (fun j _ => q.1 201 j (by unfold WM_X8_unit; omega)) (q.2)⟩
theorem f_applicant {l : Launch} {G : zG} {b : Nat} {S : zS} {v0 : Int32} {v1 : Int32} (h : jI S) : zM l G b yX7_applicant cX7_applicant 3 (some .int) 1 0 0 [.ref 0, .int v0, .int v1] S (fun r z => (∃ v, r = some (.int v)) ∧ jI z) := by
  obtain ⟨L, M, N⟩ := S
  obtain ⟨r, e, q⟩ := v_X7_applicant (P := 0) (M0 := M) (v0 := v0) (v1 := v1)
  refine zM.weaken (t_X7_applicant (L := L) (N := N) h.1 e) (fun r2 z q2 => ?_)
  obtain ⟨rfl, rfl⟩ := q2
  exact ⟨⟨_, rfl⟩, h.cls (fun a j hh => q a j (by unfold WM_X7_applicant; omega))⟩
theorem m_applicant {l : Launch} {G : zG} {b : Nat} {S : zS} {v0 : Int32} {v1 : Int32} (h : jI S) : zM l G b yX8_applicant cX8_applicant 3 (some .int) 4 0 0 [.ref 200, .int v0, .int v1] S (fun r z => (∃ v, r = some (.int v)) ∧ jI z) := by
  obtain ⟨L, M, N⟩ := S
  obtain ⟨r, e, q⟩ := v_X8_applicant (P := 200) (M0 := M) (v0 := v0) (v1 := v1) h.2.2.2.1.1 h.2.2.2.1.2.1 h.2.2.2.1.2.2.1 h.2.2.2.1.2.2.2.1 h.2.2.2.1.2.2.2.2
  refine zM.weaken (t_X8_applicant (L := L) (N := N) h.2.1 e) (fun r2 z q2 => ?_)
  obtain ⟨rfl, rfl⟩ := q2
  exact ⟨⟨_, rfl⟩, h.mod (fun a j hh => q.1 a j (by unfold WM_X8_applicant; omega)) (fun j _ => q.1 201 j (by unfold WM_X8_applicant; omega)) (q.2)⟩
theorem f_choice {l : Launch} {G : zG} {b : Nat} {S : zS} {v0 : Int32} {v1 : Int32} (h : jI S) : zM l G b yX7_choice cX7_choice 3 (some .int) 2 0 0 [.ref 0, .int v0, .int v1] S (fun r z => (∃ v, r = some (.int v)) ∧ jI z) := by
  obtain ⟨L, M, N⟩ := S
  obtain ⟨r, e, q⟩ := v_X7_choice (P := 0) (M0 := M) (v0 := v0) (v1 := v1)
  refine zM.weaken (t_X7_choice (L := L) (N := N) h.1 e) (fun r2 z q2 => ?_)
  obtain ⟨rfl, rfl⟩ := q2
  exact ⟨⟨_, rfl⟩, h.cls (fun a j hh => q a j (by unfold WM_X7_choice; omega))⟩
theorem m_choice {l : Launch} {G : zG} {b : Nat} {S : zS} {v0 : Int32} {v1 : Int32} (h : jI S) : zM l G b yX8_choice cX8_choice 3 (some .int) 4 0 0 [.ref 200, .int v0, .int v1] S (fun r z => (∃ v, r = some (.int v)) ∧ jI z) := by
  obtain ⟨L, M, N⟩ := S
  obtain ⟨r, e, q⟩ := v_X8_choice (P := 200) (M0 := M) (v0 := v0) (v1 := v1) h.2.2.2.1.1 h.2.2.2.1.2.1 h.2.2.2.1.2.2.1 h.2.2.2.1.2.2.2.1 h.2.2.2.1.2.2.2.2
  refine zM.weaken (t_X8_choice (L := L) (N := N) h.2.1 e) (fun r2 z q2 => ?_)
  obtain ⟨rfl, rfl⟩ := q2
  exact ⟨⟨_, rfl⟩, h.mod (fun a j hh => q.1 a j (by unfold WM_X8_choice; omega)) (fun j _ => q.1 201 j (by unfold WM_X8_choice; omega)) (q.2)⟩
theorem f_demand {l : Launch} {G : zG} {b : Nat} {S : zS} {v0 : Int32} {v1 : Int32} (h : jI S) : zM l G b yX7_demand cX7_demand 3 (some .int) 4 0 0 [.ref 0, .int v0, .int v1] S (fun r z => (∃ v, r = some (.int v)) ∧ jI z) := by
  obtain ⟨L, M, N⟩ := S
  obtain ⟨r, e, q⟩ := v_X7_demand (P := 0) (M0 := M) (v0 := v0) (v1 := v1)
  refine zM.weaken (t_X7_demand (L := L) (N := N) h.1 e) (fun r2 z q2 => ?_)
  obtain ⟨rfl, rfl⟩ := q2
  exact ⟨⟨_, rfl⟩, h.cls (fun a j hh => q a j (by unfold WM_X7_demand; omega))⟩
theorem m_demand {l : Launch} {G : zG} {b : Nat} {S : zS} {v0 : Int32} {v1 : Int32} (h : jI S) : zM l G b yX8_demand cX8_demand 5 (some .int) 3 0 0 [.ref 200, .int v0, .int v1] S (fun r z => (∃ v, r = some (.int v)) ∧ jI z) := by
  obtain ⟨L, M, N⟩ := S
  obtain ⟨r, e, q⟩ := v_X8_demand (P := 200) (M0 := M) (v0 := v0) (v1 := v1) h.2.2.2.1.1 h.2.2.2.1.2.1 h.2.2.2.1.2.2.1 h.2.2.2.1.2.2.2.1 h.2.2.2.1.2.2.2.2
  refine zM.weaken (t_X8_demand (L := L) (N := N) h.2.1 e) (fun r2 z q2 => ?_)
  obtain ⟨rfl, rfl⟩ := q2
  exact ⟨⟨_, rfl⟩, h.mod (fun a j hh => q.1 a j (by unfold WM_X8_demand; omega)) (fun j _ => q.1 201 j (by unfold WM_X8_demand; omega)) (q.2)⟩
theorem f_share {l : Launch} {G : zG} {b : Nat} {S : zS} {v0 : Int32} {v1 : Int32} (h : jI S) : zM l G b yX7_share cX7_share 3 (some .int) 2 0 0 [.ref 0, .int v0, .int v1] S (fun r z => (∃ v, r = some (.int v)) ∧ jI z) := by
  obtain ⟨L, M, N⟩ := S
  obtain ⟨r, e, q⟩ := v_X7_share (P := 0) (M0 := M) (v0 := v0) (v1 := v1)
  refine zM.weaken (t_X7_share (L := L) (N := N) h.1 e) (fun r2 z q2 => ?_)
  obtain ⟨rfl, rfl⟩ := q2
  exact ⟨⟨_, rfl⟩, h.cls (fun a j hh => q a j (by unfold WM_X7_share; omega))⟩
theorem m_share {l : Launch} {G : zG} {b : Nat} {S : zS} {v0 : Int32} {v1 : Int32} (h : jI S) : zM l G b yX8_share cX8_share 5 (some .int) 4 0 0 [.ref 200, .int v0, .int v1] S (fun r z => (∃ v, r = some (.int v)) ∧ jI z) := by
  obtain ⟨L, M, N⟩ := S
  obtain ⟨r, e, q⟩ := v_X8_share (P := 200) (M0 := M) (v0 := v0) (v1 := v1) h.2.2.2.1.1 h.2.2.2.1.2.1 h.2.2.2.1.2.2.1 h.2.2.2.1.2.2.2.1 h.2.2.2.1.2.2.2.2
  refine zM.weaken (t_X8_share (L := L) (N := N) h.2.1 e) (fun r2 z q2 => ?_)
  obtain ⟨rfl, rfl⟩ := q2
  exact ⟨⟨_, rfl⟩, h.mod (fun a j hh => q.1 a j (by unfold WM_X8_share; omega)) (fun j _ => q.1 201 j (by unfold WM_X8_share; omega)) (q.2)⟩
theorem f_order {l : Launch} {G : zG} {b : Nat} {S : zS} {v0 : Int32} {v1 : Int32} (h : jI S) : zM l G b yX7_order cX7_order 3 (some .int) 3 0 0 [.ref 0, .int v0, .int v1] S (fun r z => (∃ v, r = some (.int v)) ∧ jI z) := by
  obtain ⟨L, M, N⟩ := S
  obtain ⟨r, e, q⟩ := v_X7_order (P := 0) (M0 := M) (v0 := v0) (v1 := v1)
  refine zM.weaken (t_X7_order (L := L) (N := N) h.1 e) (fun r2 z q2 => ?_)
  obtain ⟨rfl, rfl⟩ := q2
  exact ⟨⟨_, rfl⟩, h.cls (fun a j hh => q a j (by unfold WM_X7_order; omega))⟩
theorem m_order {l : Launch} {G : zG} {b : Nat} {S : zS} {v0 : Int32} {v1 : Int32} (h : jI S) : zM l G b yX8_order cX8_order 3 (some .int) 4 0 0 [.ref 200, .int v0, .int v1] S (fun r z => (∃ v, r = some (.int v)) ∧ jI z) := by
  obtain ⟨L, M, N⟩ := S
  obtain ⟨r, e, q⟩ := v_X8_order (P := 200) (M0 := M) (N0 := N) (v0 := v0) (v1 := v1) h.2.2.2.1.1 h.2.2.2.1.2.1 h.2.2.2.1.2.2.1 h.2.2.2.1.2.2.2.1 h.2.2.2.1.2.2.2.2
  refine zM.weaken (t_X8_order (L := L) (N := N) h.2.1 e) (fun r2 z q2 => ?_)
  obtain ⟨rfl, rfl⟩ := q2
  exact ⟨⟨_, rfl⟩, h.mod (fun a j hh => q.1 a j (by unfold WM_X8_order; omega)) (fun j _ => q.1 201 j (by unfold WM_X8_order; omega)) (q.2.2)⟩
theorem f_drawn {l : Launch} {G : zG} {b : Nat} {S : zS} {v0 : Int32} {v1 : Int32} (h : jI S) : zM l G b yX7_drawn cX7_drawn 4 (some .int) 5 0 0 [.ref 0, .int v0, .int v1] S (fun r z => (∃ v, r = some (.int v)) ∧ jI z) := by
  obtain ⟨L, M, N⟩ := S
  obtain ⟨r, e, q⟩ := v_X7_drawn (P := 0) (M0 := M) (v0 := v0) (v1 := v1)
  refine zM.weaken (t_X7_drawn (L := L) (N := N) h.1 e) (fun r2 z q2 => ?_)
  obtain ⟨rfl, rfl⟩ := q2
  exact ⟨⟨_, rfl⟩, h.cls (fun a j hh => q a j (by unfold WM_X7_drawn; omega))⟩
theorem m_drawn {l : Launch} {G : zG} {b : Nat} {S : zS} {v0 : Int32} {v1 : Int32} (h : jI S) : zM l G b yX8_drawn cX8_drawn 3 (some .int) 5 0 0 [.ref 200, .int v0, .int v1] S (fun r z => (∃ v, r = some (.int v)) ∧ jI z) := by
  obtain ⟨L, M, N⟩ := S
  obtain ⟨r, e, q⟩ := v_X8_drawn (P := 200) (M0 := M) (N0 := N) (v0 := v0) (v1 := v1) h.2.2.2.1.1 h.2.2.2.1.2.1 h.2.2.2.1.2.2.1 h.2.2.2.1.2.2.2.1 h.2.2.2.1.2.2.2.2
  refine zM.weaken (t_X8_drawn (L := L) (N := N) h.2.1 e) (fun r2 z q2 => ?_)
  obtain ⟨rfl, rfl⟩ := q2
  exact ⟨⟨_, rfl⟩, h.mod (fun a j hh => q.1 a j (by unfold WM_X8_drawn; omega)) (fun j _ => q.1 201 j (by unfold WM_X8_drawn; omega)) (q.2.2)⟩
theorem f_round {l : Launch} {G : zG} {b : Nat} {S : zS} {v0 : Int32} {v1 : Int32} (h : jI S) : zM l G b yX7_round cX7_round 3 (some .int) 5 0 0 [.ref 0, .int v0, .int v1] S (fun r z => (∃ v, r = some (.int v)) ∧ jI z) := by
  obtain ⟨L, M, N⟩ := S
  obtain ⟨r, e, q⟩ := v_X7_round (P := 0) (M0 := M) (v0 := v0) (v1 := v1)
  refine zM.weaken (t_X7_round (L := L) (N := N) h.1 e) (fun r2 z q2 => ?_)
  obtain ⟨rfl, rfl⟩ := q2
  exact ⟨⟨_, rfl⟩, h.cls (fun a j hh => q a j (by unfold WM_X7_round; omega))⟩
theorem m_round {l : Launch} {G : zG} {b : Nat} {S : zS} {v0 : Int32} {v1 : Int32} (h : jI S) : zM l G b yX8_round cX8_round 3 (some .int) 5 0 0 [.ref 200, .int v0, .int v1] S (fun r z => (∃ v, r = some (.int v)) ∧ jI z) := by
  obtain ⟨L, M, N⟩ := S
  obtain ⟨r, e, q⟩ := v_X8_round (P := 200) (M0 := M) (N0 := N) (v0 := v0) (v1 := v1) h.2.2.2.1.1 h.2.2.2.1.2.1 h.2.2.2.1.2.2.1 h.2.2.2.1.2.2.2.1 h.2.2.2.1.2.2.2.2
  refine zM.weaken (t_X8_round (L := L) (N := N) h.2.1 e) (fun r2 z q2 => ?_)
  obtain ⟨rfl, rfl⟩ := q2
  exact ⟨⟨_, rfl⟩, h.mod (fun a j hh => q.1 a j (by unfold WM_X8_round; omega)) (fun j _ => q.1 201 j (by unfold WM_X8_round; omega)) (q.2.2)⟩
theorem f_left {l : Launch} {G : zG} {b : Nat} {S : zS} {v0 : Int32} {v1 : Int32} {v2 : Int32} (h : jI S) : zM l G b yX7_left cX7_left 5 (some .int) 5 0 0 [.ref 0, .int v0, .int v1, .int v2] S (fun r z => (∃ v, r = some (.int v)) ∧ jI z) := by
  obtain ⟨L, M, N⟩ := S
  obtain ⟨r, e, q⟩ := v_X7_left (P := 0) (M0 := M) (v0 := v0) (v1 := v1) (v2 := v2)
  refine zM.weaken (t_X7_left (L := L) (N := N) h.1 e) (fun r2 z q2 => ?_)
  obtain ⟨rfl, rfl⟩ := q2
  exact ⟨⟨_, rfl⟩, h.cls (fun a j hh => q a j (by unfold WM_X7_left; omega))⟩
theorem m_left {l : Launch} {G : zG} {b : Nat} {S : zS} {v0 : Int32} {v1 : Int32} {v2 : Int32} (h : jI S) : zM l G b yX8_left cX8_left 7 (some .int) 5 0 0 [.ref 200, .int v0, .int v1, .int v2] S (fun r z => (∃ v, r = some (.int v)) ∧ jI z) := by
  obtain ⟨L, M, N⟩ := S
  obtain ⟨r, e, q⟩ := v_X8_left (P := 200) (M0 := M) (N0 := N) (v0 := v0) (v1 := v1) (v2 := v2) h.2.2.2.1.1 h.2.2.2.1.2.1 h.2.2.2.1.2.2.1 h.2.2.2.1.2.2.2.1 h.2.2.2.1.2.2.2.2
  refine zM.weaken (t_X8_left (L := L) (N := N) h.2.1 e) (fun r2 z q2 => ?_)
  obtain ⟨rfl, rfl⟩ := q2
  exact ⟨⟨_, rfl⟩, h.mod (fun a j hh => q.1 a j (by unfold WM_X8_left; omega)) (fun j _ => q.1 201 j (by unfold WM_X8_left; omega)) (q.2.2)⟩
theorem f_winners {l : Launch} {G : zG} {b : Nat} {S : zS} {v0 : Int32} (h : jI S) : zM l G b yX7_winners cX7_winners 4 (some .int) 5 0 0 [.ref 0, .int v0] S (fun r z => (∃ v, r = some (.int v)) ∧ jI z) := by
  obtain ⟨L, M, N⟩ := S
  obtain ⟨r, e, q⟩ := v_X7_winners (P := 0) (M0 := M) (v0 := v0)
  refine zM.weaken (t_X7_winners (L := L) (N := N) h.1 e) (fun r2 z q2 => ?_)
  obtain ⟨rfl, rfl⟩ := q2
  exact ⟨⟨_, rfl⟩, h.cls (fun a j hh => q a j (by unfold WM_X7_winners; omega))⟩
theorem m_winners {l : Launch} {G : zG} {b : Nat} {S : zS} {v0 : Int32} (h : jI S) : zM l G b yX8_winners cX8_winners 2 (some .int) 5 0 0 [.ref 200, .int v0] S (fun r z => (∃ v, r = some (.int v)) ∧ jI z) := by
  obtain ⟨L, M, N⟩ := S
  obtain ⟨r, e, q⟩ := v_X8_winners (P := 200) (M0 := M) (N0 := N) (v0 := v0) h.2.2.2.1.1 h.2.2.2.1.2.1 h.2.2.2.1.2.2.1 h.2.2.2.1.2.2.2.1 h.2.2.2.1.2.2.2.2
  refine zM.weaken (t_X8_winners (L := L) (N := N) h.2.1 e) (fun r2 z q2 => ?_)
  obtain ⟨rfl, rfl⟩ := q2
  exact ⟨⟨_, rfl⟩, h.mod (fun a j hh => q.1 a j (by unfold WM_X8_winners; omega)) (fun j _ => q.1 201 j (by unfold WM_X8_winners; omega)) (q.2.2)⟩
theorem f_waits {l : Launch} {G : zG} {b : Nat} {S : zS} {v0 : Int32} {v1 : Int32} {v2 : Int32} (h : jI S) : zM l G b yX7_waits cX7_waits 7 (some .int) 5 0 0 [.ref 0, .int v0, .int v1, .int v2] S (fun r z => (∃ v, r = some (.int v)) ∧ jI z) := by
  obtain ⟨L, M, N⟩ := S
  obtain ⟨r, e, q⟩ := v_X7_waits (P := 0) (M0 := M) (v0 := v0) (v1 := v1) (v2 := v2)
  refine zM.weaken (t_X7_waits (L := L) (N := N) h.1 e) (fun r2 z q2 => ?_)
  obtain ⟨rfl, rfl⟩ := q2
  exact ⟨⟨_, rfl⟩, h.cls (fun a j hh => q a j (by unfold WM_X7_waits; omega))⟩
theorem m_waits {l : Launch} {G : zG} {b : Nat} {S : zS} {v0 : Int32} {v1 : Int32} {v2 : Int32} (h : jI S) : zM l G b yX8_waits cX8_waits 6 (some .int) 5 0 0 [.ref 200, .int v0, .int v1, .int v2] S (fun r z => (∃ v, r = some (.int v)) ∧ jI z) := by
  obtain ⟨L, M, N⟩ := S
  obtain ⟨r, e, q⟩ := v_X8_waits (P := 200) (M0 := M) (N0 := N) (v0 := v0) (v1 := v1) (v2 := v2) h.2.2.2.1.1 h.2.2.2.1.2.1 h.2.2.2.1.2.2.1 h.2.2.2.1.2.2.2.1 h.2.2.2.1.2.2.2.2
  refine zM.weaken (t_X8_waits (L := L) (N := N) h.2.1 e) (fun r2 z q2 => ?_)
  obtain ⟨rfl, rfl⟩ := q2
  exact ⟨⟨_, rfl⟩, h.mod (fun a j hh => q.1 a j (by unfold WM_X8_waits; omega)) (fun j _ => q.1 201 j (by unfold WM_X8_waits; omega)) (q.2.2)⟩
theorem f_next {l : Launch} {G : zG} {b : Nat} {S : zS} {v0 : Int32} {v1 : Int32} {v2 : Int32} (h : jI S) : zM l G b yX7_next cX7_next 8 (some .int) 5 0 0 [.ref 0, .int v0, .int v1, .int v2] S (fun r z => (∃ v, r = some (.int v)) ∧ jI z) := by
  obtain ⟨L, M, N⟩ := S
  obtain ⟨r, e, q⟩ := v_X7_next (P := 0) (M0 := M) (v0 := v0) (v1 := v1) (v2 := v2)
  refine zM.weaken (t_X7_next (L := L) (N := N) h.1 e) (fun r2 z q2 => ?_)
  obtain ⟨rfl, rfl⟩ := q2
  exact ⟨⟨_, rfl⟩, h.cls (fun a j hh => q a j (by unfold WM_X7_next; omega))⟩
theorem m_next {l : Launch} {G : zG} {b : Nat} {S : zS} {v0 : Int32} {v1 : Int32} {v2 : Int32} (h : jI S) : zM l G b yX8_next_ cX8_next_ 5 (some .int) 5 0 0 [.ref 200, .int v0, .int v1, .int v2] S (fun r z => (∃ v, r = some (.int v)) ∧ jI z) := by
  obtain ⟨L, M, N⟩ := S
  obtain ⟨r, e, q⟩ := v_X8_next_ (P := 200) (M0 := M) (N0 := N) (v0 := v0) (v1 := v1) (v2 := v2) h.2.2.2.1.1 h.2.2.2.1.2.1 h.2.2.2.1.2.2.1 h.2.2.2.1.2.2.2.1 h.2.2.2.1.2.2.2.2
  refine zM.weaken (t_X8_next_ (L := L) (N := N) h.2.1 e) (fun r2 z q2 => ?_)
  obtain ⟨rfl, rfl⟩ := q2
  exact ⟨⟨_, rfl⟩, h.mod (fun a j hh => q.1 a j (by unfold WM_X8_next_; omega)) (fun j _ => q.1 201 j (by unfold WM_X8_next_; omega)) (q.2.2)⟩
theorem f_envies {l : Launch} {G : zG} {b : Nat} {S : zS} {v0 : Int32} {v1 : Int32} (h : jI S) : zM l G b yX7_envies cX7_envies 7 (some .int) 5 0 0 [.ref 0, .int v0, .int v1] S (fun r z => (∃ v, r = some (.int v)) ∧ jI z) := by
  obtain ⟨L, M, N⟩ := S
  obtain ⟨r, e, q⟩ := v_X7_envies (P := 0) (M0 := M) (v0 := v0) (v1 := v1)
  refine zM.weaken (t_X7_envies (L := L) (N := N) h.1 e) (fun r2 z q2 => ?_)
  obtain ⟨rfl, rfl⟩ := q2
  exact ⟨⟨_, rfl⟩, h.cls (fun a j hh => q a j (by unfold WM_X7_envies; omega))⟩
theorem m_envies {l : Launch} {G : zG} {b : Nat} {S : zS} {v0 : Int32} {v1 : Int32} (h : jI S) : zM l G b yX8_envies cX8_envies 6 (some .int) 5 0 0 [.ref 200, .int v0, .int v1] S (fun r z => (∃ v, r = some (.int v)) ∧ jI z) := by
  obtain ⟨L, M, N⟩ := S
  obtain ⟨r, e, q⟩ := v_X8_envies (P := 200) (M0 := M) (N0 := N) (v0 := v0) (v1 := v1) h.2.2.2.1.1 h.2.2.2.1.2.1 h.2.2.2.1.2.2.1 h.2.2.2.1.2.2.2.1 h.2.2.2.1.2.2.2.2
  refine zM.weaken (t_X8_envies (L := L) (N := N) h.2.1 e) (fun r2 z q2 => ?_)
  obtain ⟨rfl, rfl⟩ := q2
  exact ⟨⟨_, rfl⟩, h.mod (fun a j hh => q.1 a j (by unfold WM_X8_envies; omega)) (fun j _ => q.1 201 j (by unfold WM_X8_envies; omega)) (q.2.2)⟩
theorem f_spoils {l : Launch} {G : zG} {b : Nat} {S : zS} {v0 : Int32} {v1 : Int32} (h : jI S) : zM l G b yX7_spoils cX7_spoils 5 (some .int) 5 0 0 [.ref 0, .int v0, .int v1] S (fun r z => (∃ v, r = some (.int v)) ∧ jI z) := by
  obtain ⟨L, M, N⟩ := S
  obtain ⟨r, e, q⟩ := v_X7_spoils (P := 0) (M0 := M) (v0 := v0) (v1 := v1)
  refine zM.weaken (t_X7_spoils (L := L) (N := N) h.1 e) (fun r2 z q2 => ?_)
  obtain ⟨rfl, rfl⟩ := q2
  exact ⟨⟨_, rfl⟩, h.cls (fun a j hh => q a j (by unfold WM_X7_spoils; omega))⟩
theorem m_spoils {l : Launch} {G : zG} {b : Nat} {S : zS} {v0 : Int32} {v1 : Int32} (h : jI S) : zM l G b yX8_spoils cX8_spoils 5 (some .int) 5 0 0 [.ref 200, .int v0, .int v1] S (fun r z => (∃ v, r = some (.int v)) ∧ jI z) := by
  obtain ⟨L, M, N⟩ := S
  obtain ⟨r, e, q⟩ := v_X8_spoils (P := 200) (M0 := M) (N0 := N) (v0 := v0) (v1 := v1) h.2.2.2.1.1 h.2.2.2.1.2.1 h.2.2.2.1.2.2.1 h.2.2.2.1.2.2.2.1 h.2.2.2.1.2.2.2.2
  refine zM.weaken (t_X8_spoils (L := L) (N := N) h.2.1 e) (fun r2 z q2 => ?_)
  obtain ⟨rfl, rfl⟩ := q2
  exact ⟨⟨_, rfl⟩, h.mod (fun a j hh => q.1 a j (by unfold WM_X8_spoils; omega)) (fun j _ => q.1 201 j (by unfold WM_X8_spoils; omega)) (q.2.2)⟩
theorem f_behind {l : Launch} {G : zG} {b : Nat} {S : zS} {v0 : Int32} {v1 : Int32} (h : jI S) : zM l G b yX7_behind cX7_behind 3 (some .int) 5 0 0 [.ref 0, .int v0, .int v1] S (fun r z => (∃ v, r = some (.int v)) ∧ jI z) := by
  obtain ⟨L, M, N⟩ := S
  obtain ⟨r, e, q⟩ := v_X7_behind (P := 0) (M0 := M) (v0 := v0) (v1 := v1)
  refine zM.weaken (t_X7_behind (L := L) (N := N) h.1 e) (fun r2 z q2 => ?_)
  obtain ⟨rfl, rfl⟩ := q2
  exact ⟨⟨_, rfl⟩, h.cls (fun a j hh => q a j (by unfold WM_X7_behind; omega))⟩
theorem m_behind {l : Launch} {G : zG} {b : Nat} {S : zS} {v0 : Int32} {v1 : Int32} (h : jI S) : zM l G b yX8_behind cX8_behind 3 (some .int) 5 0 0 [.ref 200, .int v0, .int v1] S (fun r z => (∃ v, r = some (.int v)) ∧ jI z) := by
  obtain ⟨L, M, N⟩ := S
  obtain ⟨r, e, q⟩ := v_X8_behind (P := 200) (M0 := M) (N0 := N) (v0 := v0) (v1 := v1) h.2.2.2.1.1 h.2.2.2.1.2.1 h.2.2.2.1.2.2.1 h.2.2.2.1.2.2.2.1 h.2.2.2.1.2.2.2.2
  refine zM.weaken (t_X8_behind (L := L) (N := N) h.2.1 e) (fun r2 z q2 => ?_)
  obtain ⟨rfl, rfl⟩ := q2
  exact ⟨⟨_, rfl⟩, h.mod (fun a j hh => q.1 a j (by unfold WM_X8_behind; omega)) (fun j _ => q.1 201 j (by unfold WM_X8_behind; omega)) (q.2.2)⟩
theorem f_lucky {l : Launch} {G : zG} {b : Nat} {S : zS} {v0 : Int32} {v1 : Int32} (h : jI S) : zM l G b yX7_lucky cX7_lucky 4 (some .int) 5 0 0 [.ref 0, .int v0, .int v1] S (fun r z => (∃ v, r = some (.int v)) ∧ jI z) := by
  obtain ⟨L, M, N⟩ := S
  obtain ⟨r, e, q⟩ := v_X7_lucky (P := 0) (M0 := M) (v0 := v0) (v1 := v1)
  refine zM.weaken (t_X7_lucky (L := L) (N := N) h.1 e) (fun r2 z q2 => ?_)
  obtain ⟨rfl, rfl⟩ := q2
  exact ⟨⟨_, rfl⟩, h.cls (fun a j hh => q a j (by unfold WM_X7_lucky; omega))⟩
theorem m_lucky {l : Launch} {G : zG} {b : Nat} {S : zS} {v0 : Int32} {v1 : Int32} (h : jI S) : zM l G b yX8_lucky cX8_lucky 4 (some .int) 5 0 0 [.ref 200, .int v0, .int v1] S (fun r z => (∃ v, r = some (.int v)) ∧ jI z) := by
  obtain ⟨L, M, N⟩ := S
  obtain ⟨r, e, q⟩ := v_X8_lucky (P := 200) (M0 := M) (N0 := N) (v0 := v0) (v1 := v1) h.2.2.2.1.1 h.2.2.2.1.2.1 h.2.2.2.1.2.2.1 h.2.2.2.1.2.2.2.1 h.2.2.2.1.2.2.2.2
  refine zM.weaken (t_X8_lucky (L := L) (N := N) h.2.1 e) (fun r2 z q2 => ?_)
  obtain ⟨rfl, rfl⟩ := q2
  exact ⟨⟨_, rfl⟩, h.mod (fun a j hh => q.1 a j (by unfold WM_X8_lucky; omega)) (fun j _ => q.1 201 j (by unfold WM_X8_lucky; omega)) (q.2.2)⟩
theorem f_chance {l : Launch} {G : zG} {b : Nat} {S : zS} {v0 : Int32} {v1 : Int32} (h : jI S) : zM l G b yX7_chance cX7_chance 3 (some .long) 15 0 0 [.ref 0, .int v0, .int v1] S (fun r z => (∃ v, r = some (.long v)) ∧ jI z) := by
  obtain ⟨L, M, N⟩ := S
  obtain ⟨r, e, q⟩ := v_X7_chance (P := 0) (M0 := M) (N0 := N) (v0 := v0) (v1 := v1)
  refine zM.weaken (t_X7_chance (L := L) (N := N) h.1 e) (fun r2 z q2 => ?_)
  obtain ⟨rfl, rfl⟩ := q2
  exact ⟨⟨_, rfl⟩, h.cls (fun a j hh => q.1 a j (by unfold WM_X7_chance; omega))⟩
theorem m_chance {l : Launch} {G : zG} {b : Nat} {S : zS} {v0 : Int32} {v1 : Int32} (h : jI S) : zM l G b yX8_chance cX8_chance 3 (some .long) 14 0 0 [.ref 200, .int v0, .int v1] S (fun r z => (∃ v, r = some (.long v)) ∧ jI z) := by
  obtain ⟨L, M, N⟩ := S
  obtain ⟨r, e, q⟩ := v_X8_chance (P := 200) (M0 := M) (N0 := N) (v0 := v0) (v1 := v1) h.2.2.2.1.1 h.2.2.2.1.2.1 h.2.2.2.1.2.2.1 h.2.2.2.1.2.2.2.1 h.2.2.2.1.2.2.2.2
  refine zM.weaken (t_X8_chance (L := L) (N := N) h.2.1 e) (fun r2 z q2 => ?_)
  obtain ⟨rfl, rfl⟩ := q2
  exact ⟨⟨_, rfl⟩, h.mod (fun a j hh => q.1 a j (by unfold WM_X8_chance; omega)) (fun j _ => q.1 201 j (by unfold WM_X8_chance; omega)) (q.2.2)⟩
theorem f_at {l : Launch} {G : zG} {b : Nat} {S : zS} {v0 : Int32} {v1 : Int32} (h : jI S) : zM l G b yX7_at cX7_at 3 (some .long) 15 0 0 [.ref 0, .int v0, .int v1] S (fun r z => (∃ v, r = some (.long v)) ∧ jI z) := by
  obtain ⟨L, M, N⟩ := S
  obtain ⟨r, e, q⟩ := v_X7_at (P := 0) (M0 := M) (N0 := N) (v0 := v0) (v1 := v1)
  refine zM.weaken (t_X7_at (L := L) (N := N) h.1 e) (fun r2 z q2 => ?_)
  obtain ⟨rfl, rfl⟩ := q2
  exact ⟨⟨_, rfl⟩, h.cls (fun a j hh => q.1 a j (by unfold WM_X7_at; omega))⟩
theorem m_at {l : Launch} {G : zG} {b : Nat} {S : zS} {v0 : Int32} {v1 : Int32} (h : jI S) : zM l G b yX8_at cX8_at 3 (some .long) 14 0 0 [.ref 200, .int v0, .int v1] S (fun r z => (∃ v, r = some (.long v)) ∧ jI z) := by
  obtain ⟨L, M, N⟩ := S
  obtain ⟨r, e, q⟩ := v_X8_at (P := 200) (M0 := M) (N0 := N) (v0 := v0) (v1 := v1) h.2.2.2.1.1 h.2.2.2.1.2.1 h.2.2.2.1.2.2.1 h.2.2.2.1.2.2.2.1 h.2.2.2.1.2.2.2.2
  refine zM.weaken (t_X8_at (L := L) (N := N) h.2.1 e) (fun r2 z q2 => ?_)
  obtain ⟨rfl, rfl⟩ := q2
  exact ⟨⟨_, rfl⟩, h.mod (fun a j hh => q.1 a j (by unfold WM_X8_at; omega)) (fun j _ => q.1 201 j (by unfold WM_X8_at; omega)) (q.2.2)⟩
theorem f_both {l : Launch} {G : zG} {b : Nat} {S : zS} {v0 : Int32} {v1 : Int32} (h : jI S) : zM l G b yX7_both cX7_both 3 (some .long) 15 0 0 [.ref 0, .int v0, .int v1] S (fun r z => (∃ v, r = some (.long v)) ∧ jI z) := by
  obtain ⟨L, M, N⟩ := S
  obtain ⟨r, e, q⟩ := v_X7_both (P := 0) (M0 := M) (N0 := N) (v0 := v0) (v1 := v1)
  refine zM.weaken (t_X7_both (L := L) (N := N) h.1 e) (fun r2 z q2 => ?_)
  obtain ⟨rfl, rfl⟩ := q2
  exact ⟨⟨_, rfl⟩, h.cls (fun a j hh => q.1 a j (by unfold WM_X7_both; omega))⟩
theorem m_both {l : Launch} {G : zG} {b : Nat} {S : zS} {v0 : Int32} {v1 : Int32} (h : jI S) : zM l G b yX8_both cX8_both 3 (some .long) 14 0 0 [.ref 200, .int v0, .int v1] S (fun r z => (∃ v, r = some (.long v)) ∧ jI z) := by
  obtain ⟨L, M, N⟩ := S
  obtain ⟨r, e, q⟩ := v_X8_both (P := 200) (M0 := M) (N0 := N) (v0 := v0) (v1 := v1) h.2.2.2.1.1 h.2.2.2.1.2.1 h.2.2.2.1.2.2.1 h.2.2.2.1.2.2.2.1 h.2.2.2.1.2.2.2.2
  refine zM.weaken (t_X8_both (L := L) (N := N) h.2.1 e) (fun r2 z q2 => ?_)
  obtain ⟨rfl, rfl⟩ := q2
  exact ⟨⟨_, rfl⟩, h.mod (fun a j hh => q.1 a j (by unfold WM_X8_both; omega)) (fun j _ => q.1 201 j (by unfold WM_X8_both; omega)) (q.2.2)⟩
theorem f_sure {l : Launch} {G : zG} {b : Nat} {S : zS} {v0 : Int32} (h : jI S) : zM l G b yX7_sure cX7_sure 3 (some .int) 15 0 0 [.ref 0, .int v0] S (fun r z => (∃ v, r = some (.int v)) ∧ jI z) := by
  obtain ⟨L, M, N⟩ := S
  obtain ⟨r, e, q⟩ := v_X7_sure (P := 0) (M0 := M) (N0 := N) (v0 := v0)
  refine zM.weaken (t_X7_sure (L := L) (N := N) h.1 e) (fun r2 z q2 => ?_)
  obtain ⟨rfl, rfl⟩ := q2
  exact ⟨⟨_, rfl⟩, h.cls (fun a j hh => q.1 a j (by unfold WM_X7_sure; omega))⟩
theorem m_sure {l : Launch} {G : zG} {b : Nat} {S : zS} {v0 : Int32} (h : jI S) : zM l G b yX8_sure cX8_sure 2 (some .int) 14 0 0 [.ref 200, .int v0] S (fun r z => (∃ v, r = some (.int v)) ∧ jI z) := by
  obtain ⟨L, M, N⟩ := S
  obtain ⟨r, e, q⟩ := v_X8_sure (P := 200) (M0 := M) (N0 := N) (v0 := v0) h.2.2.2.1.1 h.2.2.2.1.2.1 h.2.2.2.1.2.2.1 h.2.2.2.1.2.2.2.1 h.2.2.2.1.2.2.2.2
  refine zM.weaken (t_X8_sure (L := L) (N := N) h.2.1 e) (fun r2 z q2 => ?_)
  obtain ⟨rfl, rfl⟩ := q2
  exact ⟨⟨_, rfl⟩, h.mod (fun a j hh => q.1 a j (by unfold WM_X8_sure; omega)) (fun j _ => q.1 201 j (by unfold WM_X8_sure; omega)) (q.2.2)⟩
theorem f_mean {l : Launch} {G : zG} {b : Nat} {S : zS} {v0 : Int32} (h : jI S) : zM l G b yX7_mean cX7_mean 5 (some .long) 15 0 0 [.ref 0, .int v0] S (fun r z => (∃ v, r = some (.long v)) ∧ jI z) := by
  obtain ⟨L, M, N⟩ := S
  obtain ⟨r, e, q⟩ := v_X7_mean (P := 0) (M0 := M) (N0 := N) (v0 := v0)
  refine zM.weaken (t_X7_mean (L := L) (N := N) h.1 e) (fun r2 z q2 => ?_)
  obtain ⟨rfl, rfl⟩ := q2
  exact ⟨⟨_, rfl⟩, h.cls (fun a j hh => q.1 a j (by unfold WM_X7_mean; omega))⟩
theorem m_mean {l : Launch} {G : zG} {b : Nat} {S : zS} {v0 : Int32} (h : jI S) : zM l G b yX8_mean cX8_mean 2 (some .long) 14 0 0 [.ref 200, .int v0] S (fun r z => (∃ v, r = some (.long v)) ∧ jI z) := by
  obtain ⟨L, M, N⟩ := S
  obtain ⟨r, e, q⟩ := v_X8_mean (P := 200) (M0 := M) (N0 := N) (v0 := v0) h.2.2.2.1.1 h.2.2.2.1.2.1 h.2.2.2.1.2.2.1 h.2.2.2.1.2.2.2.1 h.2.2.2.1.2.2.2.2
  refine zM.weaken (t_X8_mean (L := L) (N := N) h.2.1 e) (fun r2 z q2 => ?_)
  obtain ⟨rfl, rfl⟩ := q2
  exact ⟨⟨_, rfl⟩, h.mod (fun a j hh => q.1 a j (by unfold WM_X8_mean; omega)) (fun j _ => q.1 201 j (by unfold WM_X8_mean; omega)) (q.2.2)⟩
theorem f_given {l : Launch} {G : zG} {b : Nat} {S : zS} {v0 : Int32} (h : jI S) : zM l G b yX7_given cX7_given 2 (some .int) 15 0 0 [.ref 0, .int v0] S (fun r z => (∃ v, r = some (.int v)) ∧ jI z) := by
  obtain ⟨L, M, N⟩ := S
  obtain ⟨r, e, q⟩ := v_X7_given (P := 0) (M0 := M) (N0 := N) (v0 := v0)
  refine zM.weaken (t_X7_given (L := L) (N := N) h.1 e) (fun r2 z q2 => ?_)
  obtain ⟨rfl, rfl⟩ := q2
  exact ⟨⟨_, rfl⟩, h.cls (fun a j hh => q.1 a j (by unfold WM_X7_given; omega))⟩
theorem m_given {l : Launch} {G : zG} {b : Nat} {S : zS} {v0 : Int32} (h : jI S) : zM l G b yX8_given cX8_given 2 (some .int) 14 0 0 [.ref 200, .int v0] S (fun r z => (∃ v, r = some (.int v)) ∧ jI z) := by
  obtain ⟨L, M, N⟩ := S
  obtain ⟨r, e, q⟩ := v_X8_given (P := 200) (M0 := M) (N0 := N) (v0 := v0) h.2.2.2.1.1 h.2.2.2.1.2.1 h.2.2.2.1.2.2.1 h.2.2.2.1.2.2.2.1 h.2.2.2.1.2.2.2.2
  refine zM.weaken (t_X8_given (L := L) (N := N) h.2.1 e) (fun r2 z q2 => ?_)
  obtain ⟨rfl, rfl⟩ := q2
  exact ⟨⟨_, rfl⟩, h.mod (fun a j hh => q.1 a j (by unfold WM_X8_given; omega)) (fun j _ => q.1 201 j (by unfold WM_X8_given; omega)) (q.2.2)⟩
theorem f_ends {l : Launch} {G : zG} {b : Nat} {S : zS} (h : jI S) : zM l G b yX7_ends cX7_ends 1 (some .int) 15 0 0 [.ref 0] S (fun r z => (∃ v, r = some (.int v)) ∧ jI z) := by
  obtain ⟨L, M, N⟩ := S
  obtain ⟨r, e, q⟩ := v_X7_ends (P := 0) (M0 := M) (N0 := N)
  refine zM.weaken (t_X7_ends (L := L) (N := N) h.1 e) (fun r2 z q2 => ?_)
  obtain ⟨rfl, rfl⟩ := q2
  exact ⟨⟨_, rfl⟩, h.cls (fun a j hh => q.1 a j (by unfold WM_X7_ends; omega))⟩
theorem m_ends {l : Launch} {G : zG} {b : Nat} {S : zS} (h : jI S) : zM l G b yX8_ends cX8_ends 3 (some .int) 14 0 0 [.ref 200] S (fun r z => (∃ v, r = some (.int v)) ∧ jI z) := by
  obtain ⟨L, M, N⟩ := S
  obtain ⟨r, e, q⟩ := v_X8_ends (P := 200) (M0 := M) (N0 := N) h.2.2.2.1.1 h.2.2.2.1.2.1 h.2.2.2.1.2.2.1 h.2.2.2.1.2.2.2.1 h.2.2.2.1.2.2.2.2
  refine zM.weaken (t_X8_ends (L := L) (N := N) h.2.1 e) (fun r2 z q2 => ?_)
  obtain ⟨rfl, rfl⟩ := q2
  exact ⟨⟨_, rfl⟩, h.mod (fun a j hh => q.1 a j (by unfold WM_X8_ends; omega)) (fun j _ => q.1 201 j (by unfold WM_X8_ends; omega)) (q.2.2)⟩
theorem f_need {l : Launch} {G : zG} {b : Nat} {S : zS} {v0 : Int32} {v1 : Int32} (h : jI S) : zM l G b yX7_need cX7_need 5 (some .int) 14 0 0 [.ref 0, .int v0, .int v1] S (fun r z => (∃ v, r = some (.int v)) ∧ jI z) := by
  obtain ⟨L, M, N⟩ := S
  obtain ⟨r, e, q⟩ := v_X7_need (P := 0) (M0 := M) (N0 := N) (v0 := v0) (v1 := v1)
  refine zM.weaken (t_X7_need (L := L) (N := N) h.1 e) (fun r2 z q2 => ?_)
  obtain ⟨rfl, rfl⟩ := q2
  exact ⟨⟨_, rfl⟩, h.cls (fun a j hh => q.1 a j (by unfold WM_X7_need; omega))⟩
theorem m_need {l : Launch} {G : zG} {b : Nat} {S : zS} {v0 : Int32} {v1 : Int32} (h : jI S) : zM l G b yX8_need cX8_need 6 (some .int) 14 0 0 [.ref 200, .int v0, .int v1] S (fun r z => (∃ v, r = some (.int v)) ∧ jI z) := by
  obtain ⟨L, M, N⟩ := S
  obtain ⟨r, e, q⟩ := v_X8_need (P := 200) (M0 := M) (N0 := N) (v0 := v0) (v1 := v1) h.2.2.2.1.1 h.2.2.2.1.2.1 h.2.2.2.1.2.2.1 h.2.2.2.1.2.2.2.1 h.2.2.2.1.2.2.2.2
  refine zM.weaken (t_X8_need (L := L) (N := N) h.2.1 e) (fun r2 z q2 => ?_)
  obtain ⟨rfl, rfl⟩ := q2
  exact ⟨⟨_, rfl⟩, h.mod (fun a j hh => q.1 a j (by unfold WM_X8_need; omega)) (fun j hj => p11_X8_need e j hj) (q.2.2)⟩
theorem f_wise {l : Launch} {G : zG} {b : Nat} {S : zS} {v0 : Int32} (h : jI S) : zM l G b yX7_wise cX7_wise 9 (some .int) 15 0 0 [.ref 0, .int v0] S (fun r z => (∃ v, r = some (.int v)) ∧ jI z) := by
  obtain ⟨L, M, N⟩ := S
  obtain ⟨r, e, q⟩ := v_X7_wise (P := 0) (M0 := M) (N0 := N) (v0 := v0)
  refine zM.weaken (t_X7_wise (L := L) (N := N) h.1 e) (fun r2 z q2 => ?_)
  obtain ⟨rfl, rfl⟩ := q2
  exact ⟨⟨_, rfl⟩, h.cls (fun a j hh => q.1 a j (by unfold WM_X7_wise; omega))⟩
theorem m_wise {l : Launch} {G : zG} {b : Nat} {S : zS} {v0 : Int32} (h : jI S) : zM l G b yX8_wise cX8_wise 3 (some .int) 15 0 0 [.ref 200, .int v0] S (fun r z => (∃ v, r = some (.int v)) ∧ jI z) := by
  obtain ⟨L, M, N⟩ := S
  obtain ⟨r, e, q⟩ := v_X8_wise (P := 200) (M0 := M) (N0 := N) (v0 := v0) h.2.2.2.1.1 h.2.2.2.1.2.1 h.2.2.2.1.2.2.1 h.2.2.2.1.2.2.2.1 h.2.2.2.1.2.2.2.2
  refine zM.weaken (t_X8_wise (L := L) (N := N) h.2.1 e) (fun r2 z q2 => ?_)
  obtain ⟨rfl, rfl⟩ := q2
  exact ⟨⟨_, rfl⟩, h.mod (fun a j hh => q.1 a j (by unfold WM_X8_wise; omega)) (fun j hj => p11_X8_wise e j hj) (q.2.2)⟩
theorem f_wiseChance {l : Launch} {G : zG} {b : Nat} {S : zS} {v0 : Int32} (h : jI S) : zM l G b yX7_wiseChance cX7_wiseChance 6 (some .long) 15 0 0 [.ref 0, .int v0] S (fun r z => (∃ v, r = some (.long v)) ∧ jI z) := by
  obtain ⟨L, M, N⟩ := S
  obtain ⟨r, e, q⟩ := v_X7_wiseChance (P := 0) (M0 := M) (N0 := N) (v0 := v0)
  refine zM.weaken (t_X7_wiseChance (L := L) (N := N) h.1 e) (fun r2 z q2 => ?_)
  obtain ⟨rfl, rfl⟩ := q2
  exact ⟨⟨_, rfl⟩, h.cls (fun a j hh => q.1 a j (by unfold WM_X7_wiseChance; omega))⟩
theorem m_wiseChance {l : Launch} {G : zG} {b : Nat} {S : zS} {v0 : Int32} (h : jI S) : zM l G b yX8_wiseChance cX8_wiseChance 2 (some .long) 15 0 0 [.ref 200, .int v0] S (fun r z => (∃ v, r = some (.long v)) ∧ jI z) := by
  obtain ⟨L, M, N⟩ := S
  obtain ⟨r, e, q⟩ := v_X8_wiseChance (P := 200) (M0 := M) (N0 := N) (v0 := v0) h.2.2.2.1.1 h.2.2.2.1.2.1 h.2.2.2.1.2.2.1 h.2.2.2.1.2.2.2.1 h.2.2.2.1.2.2.2.2
  refine zM.weaken (t_X8_wiseChance (L := L) (N := N) h.2.1 e) (fun r2 z q2 => ?_)
  obtain ⟨rfl, rfl⟩ := q2
  exact ⟨⟨_, rfl⟩, h.mod (fun a j hh => q.1 a j (by unfold WM_X8_wiseChance; omega)) (fun j hj => p11_X8_wiseChance e j hj) (q.2.2)⟩
theorem f_together {l : Launch} {G : zG} {b : Nat} {S : zS} {v0 : Int32} {v1 : Int32} (h : jI S) : zM l G b yX7_together cX7_together 3 (some .long) 14 0 0 [.ref 0, .int v0, .int v1] S (fun r z => (∃ v, r = some (.long v)) ∧ jI z) := by
  obtain ⟨L, M, N⟩ := S
  obtain ⟨r, e, q⟩ := v_X7_together (P := 0) (M0 := M) (N0 := N) (v0 := v0) (v1 := v1)
  refine zM.weaken (t_X7_together (L := L) (N := N) h.1 e) (fun r2 z q2 => ?_)
  obtain ⟨rfl, rfl⟩ := q2
  exact ⟨⟨_, rfl⟩, h.cls (fun a j hh => q.1 a j (by unfold WM_X7_together; omega))⟩
theorem m_together {l : Launch} {G : zG} {b : Nat} {S : zS} {v0 : Int32} {v1 : Int32} (h : jI S) : zM l G b yX8_together cX8_together 4 (some .long) 13 0 0 [.ref 200, .int v0, .int v1] S (fun r z => (∃ v, r = some (.long v)) ∧ jI z) := by
  obtain ⟨L, M, N⟩ := S
  obtain ⟨r, e, q⟩ := v_X8_together (P := 200) (M0 := M) (N0 := N) (v0 := v0) (v1 := v1) h.2.2.2.1.1 h.2.2.2.1.2.1 h.2.2.2.1.2.2.1 h.2.2.2.1.2.2.2.1 h.2.2.2.1.2.2.2.2
  refine zM.weaken (t_X8_together (L := L) (N := N) h.2.1 e) (fun r2 z q2 => ?_)
  obtain ⟨rfl, rfl⟩ := q2
  exact ⟨⟨_, rfl⟩, h.mod (fun a j hh => q.1 a j (by unfold WM_X8_together; omega)) (fun j _ => q.1 201 j (by unfold WM_X8_together; omega)) (q.2.2)⟩
theorem f_apart {l : Launch} {G : zG} {b : Nat} {S : zS} {v0 : Int32} (h : jI S) : zM l G b yX7_apart cX7_apart 4 (some .long) 14 0 0 [.ref 0, .int v0] S (fun r z => (∃ v, r = some (.long v)) ∧ jI z) := by
  obtain ⟨L, M, N⟩ := S
  obtain ⟨r, e, q⟩ := v_X7_apart (P := 0) (M0 := M) (N0 := N) (v0 := v0)
  refine zM.weaken (t_X7_apart (L := L) (N := N) h.1 e) (fun r2 z q2 => ?_)
  obtain ⟨rfl, rfl⟩ := q2
  exact ⟨⟨_, rfl⟩, h.cls (fun a j hh => q.1 a j (by unfold WM_X7_apart; omega))⟩
theorem m_apart {l : Launch} {G : zG} {b : Nat} {S : zS} {v0 : Int32} (h : jI S) : zM l G b yX8_apart cX8_apart 5 (some .long) 14 0 0 [.ref 200, .int v0] S (fun r z => (∃ v, r = some (.long v)) ∧ jI z) := by
  obtain ⟨L, M, N⟩ := S
  obtain ⟨r, e, q⟩ := v_X8_apart (P := 200) (M0 := M) (N0 := N) (v0 := v0) h.2.2.2.1.1 h.2.2.2.1.2.1 h.2.2.2.1.2.2.1 h.2.2.2.1.2.2.2.1 h.2.2.2.1.2.2.2.2
  refine zM.weaken (t_X8_apart (L := L) (N := N) h.2.1 e) (fun r2 z q2 => ?_)
  obtain ⟨rfl, rfl⟩ := q2
  exact ⟨⟨_, rfl⟩, h.mod (fun a j hh => q.1 a j (by unfold WM_X8_apart; omega)) (fun j hj => p11_X8_apart e j hj) (q.2.2)⟩
theorem f_likes {l : Launch} {G : zG} {b : Nat} {S : zS} {v0 : Int32} (h : jI S) : zM l G b yX7_likes cX7_likes 8 (some .int) 14 0 0 [.ref 0, .int v0] S (fun r z => (∃ v, r = some (.int v)) ∧ jI z) := by
  obtain ⟨L, M, N⟩ := S
  obtain ⟨r, e, q⟩ := v_X7_likes (P := 0) (M0 := M) (N0 := N) (v0 := v0)
  refine zM.weaken (t_X7_likes (L := L) (N := N) h.1 e) (fun r2 z q2 => ?_)
  obtain ⟨rfl, rfl⟩ := q2
  exact ⟨⟨_, rfl⟩, h.cls (fun a j hh => q.1 a j (by unfold WM_X7_likes; omega))⟩
theorem m_likes {l : Launch} {G : zG} {b : Nat} {S : zS} {v0 : Int32} (h : jI S) : zM l G b yX8_likes cX8_likes 6 (some .int) 14 0 0 [.ref 200, .int v0] S (fun r z => (∃ v, r = some (.int v)) ∧ jI z) := by
  obtain ⟨L, M, N⟩ := S
  obtain ⟨r, e, q⟩ := v_X8_likes (P := 200) (M0 := M) (N0 := N) (v0 := v0) h.2.2.2.1.1 h.2.2.2.1.2.1 h.2.2.2.1.2.2.1 h.2.2.2.1.2.2.2.1 h.2.2.2.1.2.2.2.2
  refine zM.weaken (t_X8_likes (L := L) (N := N) h.2.1 e) (fun r2 z q2 => ?_)
  obtain ⟨rfl, rfl⟩ := q2
  exact ⟨⟨_, rfl⟩, h.mod (fun a j hh => q.1 a j (by unfold WM_X8_likes; omega)) (fun j hj => p11_X8_likes e j hj) (q.2.2)⟩
theorem f_years {l : Launch} {G : zG} {b : Nat} {S : zS} {v0 : Int32} {v1 : Int32} {v2 : Int32} (h : jI S) : zM l G b yX7_years cX7_years 4 (some .int) 6 0 0 [.ref 0, .int v0, .int v1, .int v2] S (fun r z => (∃ v, r = some (.int v)) ∧ jI z) := by
  obtain ⟨L, M, N⟩ := S
  obtain ⟨r, e, q⟩ := v_X7_years (P := 0) (M0 := M) (v0 := v0) (v1 := v1) (v2 := v2)
  refine zM.weaken (t_X7_years (L := L) (N := N) h.1 e) (fun r2 z q2 => ?_)
  obtain ⟨rfl, rfl⟩ := q2
  exact ⟨⟨_, rfl⟩, h.cls (fun a j hh => q a j (by unfold WM_X7_years; omega))⟩
theorem m_years {l : Launch} {G : zG} {b : Nat} {S : zS} {v0 : Int32} {v1 : Int32} {v2 : Int32} (h : jI S) : zM l G b yX8_years cX8_years 9 (some .int) 6 0 0 [.ref 200, .int v0, .int v1, .int v2] S (fun r z => (∃ v, r = some (.int v)) ∧ jI z) := by
  obtain ⟨L, M, N⟩ := S
  obtain ⟨r, e, q⟩ := v_X8_years (P := 200) (M0 := M) (N0 := N) (v0 := v0) (v1 := v1) (v2 := v2) h.2.2.2.1.1 h.2.2.2.1.2.1 h.2.2.2.1.2.2.1 h.2.2.2.1.2.2.2.1 h.2.2.2.1.2.2.2.2
  refine zM.weaken (t_X8_years (L := L) (N := N) h.2.1 e) (fun r2 z q2 => ?_)
  obtain ⟨rfl, rfl⟩ := q2
  exact ⟨⟨_, rfl⟩, h.mod (fun a j hh => q.1 a j (by unfold WM_X8_years; omega)) (fun j hj => p11_X8_years e j hj) (q.2.2)⟩
theorem f_often {l : Launch} {G : zG} {b : Nat} {S : zS} {v0 : Int32} {v1 : Int32} {v2 : Int32} (h : jI S) : zM l G b yX7_often cX7_often 4 (some .int) 6 0 0 [.ref 0, .int v0, .int v1, .int v2] S (fun r z => (∃ v, r = some (.int v)) ∧ jI z) := by
  obtain ⟨L, M, N⟩ := S
  obtain ⟨r, e, q⟩ := v_X7_often (P := 0) (M0 := M) (v0 := v0) (v1 := v1) (v2 := v2)
  refine zM.weaken (t_X7_often (L := L) (N := N) h.1 e) (fun r2 z q2 => ?_)
  obtain ⟨rfl, rfl⟩ := q2
  exact ⟨⟨_, rfl⟩, h.cls (fun a j hh => q a j (by unfold WM_X7_often; omega))⟩
theorem m_often {l : Launch} {G : zG} {b : Nat} {S : zS} {v0 : Int32} {v1 : Int32} {v2 : Int32} (h : jI S) : zM l G b yX8_often cX8_often 6 (some .int) 6 0 0 [.ref 200, .int v0, .int v1, .int v2] S (fun r z => (∃ v, r = some (.int v)) ∧ jI z) := by
  obtain ⟨L, M, N⟩ := S
  obtain ⟨r, e, q⟩ := v_X8_often (P := 200) (M0 := M) (N0 := N) (v0 := v0) (v1 := v1) (v2 := v2) h.2.2.2.1.1 h.2.2.2.1.2.1 h.2.2.2.1.2.2.1 h.2.2.2.1.2.2.2.1 h.2.2.2.1.2.2.2.2
  refine zM.weaken (t_X8_often (L := L) (N := N) h.2.1 e) (fun r2 z q2 => ?_)
  obtain ⟨rfl, rfl⟩ := q2
  exact ⟨⟨_, rfl⟩, h.mod (fun a j hh => q.1 a j (by unfold WM_X8_often; omega)) (fun j hj => p11_X8_often e j hj) (q.2.2)⟩
theorem f_soonest {l : Launch} {G : zG} {b : Nat} {S : zS} {v0 : Int32} {v1 : Int32} {v2 : Int32} (h : jI S) : zM l G b yX7_soonest cX7_soonest 5 (some .int) 6 0 0 [.ref 0, .int v0, .int v1, .int v2] S (fun r z => (∃ v, r = some (.int v)) ∧ jI z) := by
  obtain ⟨L, M, N⟩ := S
  obtain ⟨r, e, q⟩ := v_X7_soonest (P := 0) (M0 := M) (v0 := v0) (v1 := v1) (v2 := v2)
  refine zM.weaken (t_X7_soonest (L := L) (N := N) h.1 e) (fun r2 z q2 => ?_)
  obtain ⟨rfl, rfl⟩ := q2
  exact ⟨⟨_, rfl⟩, h.cls (fun a j hh => q a j (by unfold WM_X7_soonest; omega))⟩
theorem m_soonest {l : Launch} {G : zG} {b : Nat} {S : zS} {v0 : Int32} {v1 : Int32} {v2 : Int32} (h : jI S) : zM l G b yX8_soonest cX8_soonest 7 (some .int) 6 0 0 [.ref 200, .int v0, .int v1, .int v2] S (fun r z => (∃ v, r = some (.int v)) ∧ jI z) := by
  obtain ⟨L, M, N⟩ := S
  obtain ⟨r, e, q⟩ := v_X8_soonest (P := 200) (M0 := M) (N0 := N) (v0 := v0) (v1 := v1) (v2 := v2) h.2.2.2.1.1 h.2.2.2.1.2.1 h.2.2.2.1.2.2.1 h.2.2.2.1.2.2.2.1 h.2.2.2.1.2.2.2.2
  refine zM.weaken (t_X8_soonest (L := L) (N := N) h.2.1 e) (fun r2 z q2 => ?_)
  obtain ⟨rfl, rfl⟩ := q2
  exact ⟨⟨_, rfl⟩, h.mod (fun a j hh => q.1 a j (by unfold WM_X8_soonest; omega)) (fun j hj => p11_X8_soonest e j hj) (q.2.2)⟩
theorem f_draw {l : Launch} {G : zG} {b : Nat} {S : zS} {v0 : Int32} (h : jI S) : zM l G b yX7_draw cX7_draw 2 (some .int) 5 0 0 [.ref 0, .int v0] S (fun r z => ∃ e, D_X7_draw 0 v0 S.2.1 = some e ∧ r = some (.int e.1) ∧ z = (S.1, e.2, S.2.2)) := by
  obtain ⟨L, M, N⟩ := S
  obtain ⟨e, he, -⟩ := v_X7_draw (P := 0) (M0 := M) (v0 := v0) h.2.2.1
  exact zM.weaken (t_X7_draw (L := L) (N := N) h.1 he) (fun r2 z q => ⟨e, he, q.1, q.2⟩)
theorem m_draw {l : Launch} {G : zG} {b : Nat} {S : zS} {v0 : Int32} (h : jI S) {e} (he : D_X7_draw 0 v0 S.2.1 = some e) : zM l G b yX8_draw cX8_draw 3 (some .int) 6 0 0 [.ref 200, .int v0] (S.1, e.2, S.2.2) (fun r z => r = some (.int e.1) ∧ jI z) := by
  obtain ⟨L, M, N⟩ := S
  obtain ⟨h7, h8, hv, hJ, hT, hF, hE, hO⟩ := h
  have he : D_X7_draw 0 v0 M = some e := he
  have hv : vp_in (M 25 1) 8 := hv
  have hJ : jJ 200 M := hJ
  have hT : tpe 0 200 M M := hT
  have hF : flt 0 200 M M := hF
  have hE : eqE 0 200 M M := hE
  have hO : oX 0 200 M M := hO
  obtain ⟨e', he', kc, -⟩ := v_X7_draw (P := 0) (M0 := M) (v0 := v0) hv
  rw [he] at he'
  cases he'
  have kc : ∀ a j, (200 ≤ a ∨ (a = 0 ∧ j = 1) ∨ a = 1 ∨ (a = 3 ∧ (j = 1 ∨ j = 2)) ∨ (a = 0 ∧ j = 2) ∨ a = 2) → e.2 a j = M a j := fun a j hh => kc a j (by unfold WM_X7_draw; omega)
  have hJ' : jJ 200 e.2 := hJ.mono (fun a j q => kc a j (by omega))
  have hE' : eqE 0 200 M e.2 := hE.k (fun _ _ _ _ => rfl) (fun i j q => kc i j (by omega))
  obtain ⟨a, ea, b, eb, hab, hEq, hth⟩ := t_draw hE' hJ' (N := N) (v0 := v0)
  rw [he] at ea
  cases ea
  obtain ⟨b', eb', kb, -, hJ2⟩ := v_X8_draw (P := 200) (M0 := e.2) (N0 := N) (v0 := v0) hJ'.1 hJ'.2.1 hJ'.2.2.1 hJ'.2.2.2.1 hJ'.2.2.2.2
  rw [eb] at eb'
  cases eb'
  have kb : ∀ a j, (a < 200 ∨ (a = 200 ∧ (j = 11 ∨ j = 13 ∨ j = 14)) ∨ a = 207 ∨ (a = 200 ∧ j = 64) ∨ a = 232) → b.2.1 a j = e.2 a j := fun a j hh => kb a j (by unfold WM_X8_draw; omega)
  have hE2 : eqE 0 200 b.2.1 b.2.1 := eqE.k (A := e.2) (B := b.2.1) hEq (fun i j _ _ => kb i j (by omega)) (fun _ _ _ => rfl)
  refine zM.weaken (t_X8_draw (L := L) (N := N) h8 eb) (fun r2 z q2 => ?_)
  obtain ⟨rfl, rfl⟩ := q2
  have hab2 : e.1 = b.1 := hab
  have hX2 : oX 0 200 b.2.1 b.2.1 := hO.k (fun i j q => (kb i j (by omega)).trans (kc i j (by omega))) (fun i j q => (kb i j (by omega)).trans (kc i j (by omega)))
  exact ⟨by rw [hab2], h7, h8, hE2.vp, hJ2, hT.k (fun a j q => (kb a j (by omega)).trans (kc a j (by omega))) (fun a j q => (kb a j (by omega)).trans (kc a j (by omega))), hF.k (fun j q => (kb 3 j (by omega)).trans (kc 3 j (by omega))) (fun j q => (kb 200 j (by omega)).trans (kc 200 j (by omega))), hE2, hX2⟩
theorem f_points {l : Launch} {G : zG} {b : Nat} {S : zS} {v0 : Int32} {v1 : Int32} (h : jI S) : zM l G b yX7_points cX7_points 4 (some .int) 4 0 0 [.ref 0, .int v0, .int v1] S (fun r z => ∃ e, D_X7_points 0 v0 v1 S.2.1 = some e ∧ r = some (.int e.1) ∧ z = (S.1, e.2, S.2.2)) := by
  obtain ⟨L, M, N⟩ := S
  obtain ⟨e, he, -⟩ := v_X7_points (P := 0) (M0 := M) (v0 := v0) (v1 := v1) h.2.2.1
  exact zM.weaken (t_X7_points (L := L) (N := N) h.1 he) (fun r2 z q => ⟨e, he, q.1, q.2⟩)
theorem m_points {l : Launch} {G : zG} {b : Nat} {S : zS} {v0 : Int32} {v1 : Int32} (h : jI S) {e} (he : D_X7_points 0 v0 v1 S.2.1 = some e) : zM l G b yX8_points cX8_points 3 (some .int) 2 0 0 [.ref 200, .int v0, .int v1] (S.1, e.2, S.2.2) (fun r z => r = some (.int e.1) ∧ jI z) := by
  obtain ⟨L, M, N⟩ := S
  obtain ⟨h7, h8, hv, hJ, hT, hF, hE, hO⟩ := h
  have he : D_X7_points 0 v0 v1 M = some e := he
  have hv : vp_in (M 25 1) 8 := hv
  have hJ : jJ 200 M := hJ
  have hT : tpe 0 200 M M := hT
  have hF : flt 0 200 M M := hF
  have hE : eqE 0 200 M M := hE
  have hO : oX 0 200 M M := hO
  obtain ⟨e', he', kc, -⟩ := v_X7_points (P := 0) (M0 := M) (v0 := v0) (v1 := v1) hv
  rw [he] at he'
  cases he'
  have kc : ∀ a j, (200 ≤ a ∨ (a = 0 ∧ j = 1) ∨ a = 1 ∨ (a = 3 ∧ (j = 1 ∨ j = 2)) ∨ (a = 0 ∧ j = 2) ∨ a = 2) → e.2 a j = M a j := fun a j hh => kc a j (by unfold WM_X7_points; omega)
  have hJ' : jJ 200 e.2 := hJ.mono (fun a j q => kc a j (by omega))
  have hE' : eqE 0 200 M e.2 := hE.k (fun _ _ _ _ => rfl) (fun i j q => kc i j (by omega))
  obtain ⟨a, ea, b, eb, hab, hEq, hth⟩ := t_points hE' hJ' (v0 := v0) (v1 := v1)
  rw [he] at ea
  cases ea
  obtain ⟨b', eb', kb, hJ2⟩ := v_X8_points (P := 200) (M0 := e.2) (v0 := v0) (v1 := v1) hJ'.1 hJ'.2.1 hJ'.2.2.1 hJ'.2.2.2.1 hJ'.2.2.2.2
  rw [eb] at eb'
  cases eb'
  have kb : ∀ a j, (a < 200 ∨ (a = 200 ∧ (j = 11 ∨ j = 13 ∨ j = 14)) ∨ a = 207 ∨ (a = 200 ∧ j = 64) ∨ a = 232) → b.2 a j = e.2 a j := fun a j hh => kb a j (by unfold WM_X8_points; omega)
  have hE2 : eqE 0 200 b.2 b.2 := eqE.k (A := e.2) (B := b.2) hEq (fun i j _ _ => kb i j (by omega)) (fun _ _ _ => rfl)
  refine zM.weaken (t_X8_points (L := L) (N := N) h8 eb) (fun r2 z q2 => ?_)
  obtain ⟨rfl, rfl⟩ := q2
  have hab2 : e.1 = b.1 := hab
  have hX2 : oX 0 200 b.2 b.2 := hO.k (fun i j q => (kb i j (by omega)).trans (kc i j (by omega))) (fun i j q => (kb i j (by omega)).trans (kc i j (by omega)))
  exact ⟨by rw [hab2], h7, h8, hE2.vp, hJ2, hT.k (fun a j q => (kb a j (by omega)).trans (kc a j (by omega))) (fun a j q => (kb a j (by omega)).trans (kc a j (by omega))), hF.k (fun j q => (kb 3 j (by omega)).trans (kc 3 j (by omega))) (fun j q => (kb 200 j (by omega)).trans (kc 200 j (by omega))), hE2, hX2⟩
theorem f_quota {l : Launch} {G : zG} {b : Nat} {S : zS} {v0 : Int32} {v1 : Int32} (h : jI S) : zM l G b yX7_quota cX7_quota 4 (some .int) 4 0 0 [.ref 0, .int v0, .int v1] S (fun r z => ∃ e, D_X7_quota 0 v0 v1 S.2.1 = some e ∧ r = some (.int e.1) ∧ z = (S.1, e.2, S.2.2)) := by
  obtain ⟨L, M, N⟩ := S
  obtain ⟨e, he, -⟩ := v_X7_quota (P := 0) (M0 := M) (v0 := v0) (v1 := v1) h.2.2.1
  exact zM.weaken (t_X7_quota (L := L) (N := N) h.1 he) (fun r2 z q => ⟨e, he, q.1, q.2⟩)
theorem m_quota {l : Launch} {G : zG} {b : Nat} {S : zS} {v0 : Int32} {v1 : Int32} (h : jI S) {e} (he : D_X7_quota 0 v0 v1 S.2.1 = some e) : zM l G b yX8_quota cX8_quota 3 (some .int) 2 0 0 [.ref 200, .int v0, .int v1] (S.1, e.2, S.2.2) (fun r z => r = some (.int e.1) ∧ jI z) := by
  obtain ⟨L, M, N⟩ := S
  obtain ⟨h7, h8, hv, hJ, hT, hF, hE, hO⟩ := h
  have he : D_X7_quota 0 v0 v1 M = some e := he
  have hv : vp_in (M 25 1) 8 := hv
  have hJ : jJ 200 M := hJ
  have hT : tpe 0 200 M M := hT
  have hF : flt 0 200 M M := hF
  have hE : eqE 0 200 M M := hE
  have hO : oX 0 200 M M := hO
  obtain ⟨e', he', kc, -⟩ := v_X7_quota (P := 0) (M0 := M) (v0 := v0) (v1 := v1) hv
  rw [he] at he'
  cases he'
  have kc : ∀ a j, (200 ≤ a ∨ (a = 0 ∧ j = 1) ∨ a = 1 ∨ (a = 3 ∧ (j = 1 ∨ j = 2)) ∨ (a = 0 ∧ j = 2) ∨ a = 2) → e.2 a j = M a j := fun a j hh => kc a j (by unfold WM_X7_quota; omega)
  have hJ' : jJ 200 e.2 := hJ.mono (fun a j q => kc a j (by omega))
  have hE' : eqE 0 200 M e.2 := hE.k (fun _ _ _ _ => rfl) (fun i j q => kc i j (by omega))
  obtain ⟨a, ea, b, eb, hab, hEq, hth⟩ := t_quota hE' hJ' (v0 := v0) (v1 := v1)
  rw [he] at ea
  cases ea
  obtain ⟨b', eb', kb, hJ2⟩ := v_X8_quota (P := 200) (M0 := e.2) (v0 := v0) (v1 := v1) hJ'.1 hJ'.2.1 hJ'.2.2.1 hJ'.2.2.2.1 hJ'.2.2.2.2
  rw [eb] at eb'
  cases eb'
  have kb : ∀ a j, (a < 200 ∨ (a = 200 ∧ (j = 11 ∨ j = 13 ∨ j = 14)) ∨ a = 207 ∨ (a = 200 ∧ j = 64) ∨ a = 232) → b.2 a j = e.2 a j := fun a j hh => kb a j (by unfold WM_X8_quota; omega)
  have hE2 : eqE 0 200 b.2 b.2 := eqE.k (A := e.2) (B := b.2) hEq (fun i j _ _ => kb i j (by omega)) (fun _ _ _ => rfl)
  refine zM.weaken (t_X8_quota (L := L) (N := N) h8 eb) (fun r2 z q2 => ?_)
  obtain ⟨rfl, rfl⟩ := q2
  have hab2 : e.1 = b.1 := hab
  have hX2 : oX 0 200 b.2 b.2 := hO.k (fun i j q => (kb i j (by omega)).trans (kc i j (by omega))) (fun i j q => (kb i j (by omega)).trans (kc i j (by omega)))
  exact ⟨by rw [hab2], h7, h8, hE2.vp, hJ2, hT.k (fun a j q => (kb a j (by omega)).trans (kc a j (by omega))) (fun a j q => (kb a j (by omega)).trans (kc a j (by omega))), hF.k (fun j q => (kb 3 j (by omega)).trans (kc 3 j (by omega))) (fun j q => (kb 200 j (by omega)).trans (kc 200 j (by omega))), hE2, hX2⟩
theorem f_choose {l : Launch} {G : zG} {b : Nat} {S : zS} {v0 : Int32} {v1 : Int32} {v2 : Int32} {v3 : Int32} (h : jI S) : zM l G b yX7_choose cX7_choose 6 (some .int) 4 0 0 [.ref 0, .int v0, .int v1, .int v2, .int v3] S (fun r z => ∃ e, D_X7_choose 0 v0 v1 v2 v3 S.2.1 = some e ∧ r = some (.int e.1) ∧ z = (S.1, e.2, S.2.2)) := by
  obtain ⟨L, M, N⟩ := S
  obtain ⟨e, he, -⟩ := v_X7_choose (P := 0) (M0 := M) (v0 := v0) (v1 := v1) (v2 := v2) (v3 := v3) h.2.2.1
  exact zM.weaken (t_X7_choose (L := L) (N := N) h.1 he) (fun r2 z q => ⟨e, he, q.1, q.2⟩)
theorem m_choose {l : Launch} {G : zG} {b : Nat} {S : zS} {v0 : Int32} {v1 : Int32} {v2 : Int32} {v3 : Int32} (h : jI S) {e} (he : D_X7_choose 0 v0 v1 v2 v3 S.2.1 = some e) : zM l G b yX8_choose cX8_choose 9 (some .int) 4 0 0 [.ref 200, .int v0, .int v1, .int v2, .int v3] (S.1, e.2, S.2.2) (fun r z => r = some (.int e.1) ∧ jI z) := by
  obtain ⟨L, M, N⟩ := S
  obtain ⟨h7, h8, hv, hJ, hT, hF, hE, hO⟩ := h
  have he : D_X7_choose 0 v0 v1 v2 v3 M = some e := he
  have hv : vp_in (M 25 1) 8 := hv
  have hJ : jJ 200 M := hJ
  have hT : tpe 0 200 M M := hT
  have hF : flt 0 200 M M := hF
  have hE : eqE 0 200 M M := hE
  have hO : oX 0 200 M M := hO
  obtain ⟨e', he', kc, -⟩ := v_X7_choose (P := 0) (M0 := M) (v0 := v0) (v1 := v1) (v2 := v2) (v3 := v3) hv
  rw [he] at he'
  cases he'
  have kc : ∀ a j, (200 ≤ a ∨ (a = 0 ∧ j = 1) ∨ a = 1 ∨ (a = 3 ∧ (j = 1 ∨ j = 2)) ∨ (a = 0 ∧ j = 2) ∨ a = 2) → e.2 a j = M a j := fun a j hh => kc a j (by unfold WM_X7_choose; omega)
  have hJ' : jJ 200 e.2 := hJ.mono (fun a j q => kc a j (by omega))
  have hE' : eqE 0 200 M e.2 := hE.k (fun _ _ _ _ => rfl) (fun i j q => kc i j (by omega))
  obtain ⟨a, ea, b, eb, hab, hEq, hth⟩ := t_choose hE' hJ' (a := v0) (u := v1) (v := v2) (x := v3)
  rw [he] at ea
  cases ea
  obtain ⟨b', eb', kb, hJ2⟩ := v_X8_choose (P := 200) (M0 := e.2) (v0 := v0) (v1 := v1) (v2 := v2) (v3 := v3) hJ'.1 hJ'.2.1 hJ'.2.2.1 hJ'.2.2.2.1 hJ'.2.2.2.2
  rw [eb] at eb'
  cases eb'
  have kb : ∀ a j, (a < 200 ∨ (a = 200 ∧ (j = 11 ∨ j = 13 ∨ j = 14)) ∨ a = 207 ∨ (a = 200 ∧ j = 64) ∨ a = 232) → b.2 a j = e.2 a j := fun a j hh => kb a j (by unfold WM_X8_choose; omega)
  have hE2 : eqE 0 200 b.2 b.2 := eqE.k (A := e.2) (B := b.2) hEq (fun i j _ _ => kb i j (by omega)) (fun _ _ _ => rfl)
  refine zM.weaken (t_X8_choose (L := L) (N := N) h8 eb) (fun r2 z q2 => ?_)
  obtain ⟨rfl, rfl⟩ := q2
  have hab2 : e.1 = b.1 := hab
  have hX2 : oX 0 200 b.2 b.2 := hO.k (fun i j q => (kb i j (by omega)).trans (kc i j (by omega))) (fun i j q => (kb i j (by omega)).trans (kc i j (by omega)))
  exact ⟨by rw [hab2], h7, h8, hE2.vp, hJ2, hT.k (fun a j q => (kb a j (by omega)).trans (kc a j (by omega))) (fun a j q => (kb a j (by omega)).trans (kc a j (by omega))), hF.k (fun j q => (kb 3 j (by omega)).trans (kc 3 j (by omega))) (fun j q => (kb 200 j (by omega)).trans (kc 200 j (by omega))), hE2, hX2⟩
theorem f_law {l : Launch} {G : zG} {b : Nat} {S : zS} {v0 : Int32} (h : jI S) : zM l G b yX7_law cX7_law 3 (some .int) 4 0 0 [.ref 0, .int v0] S (fun r z => ∃ e, D_X7_law 0 v0 S.2.1 = some e ∧ r = some (.int e.1) ∧ z = (S.1, e.2, S.2.2)) := by
  obtain ⟨L, M, N⟩ := S
  obtain ⟨e, he, -⟩ := v_X7_law (P := 0) (M0 := M) (v0 := v0) h.2.2.1
  exact zM.weaken (t_X7_law (L := L) (N := N) h.1 he) (fun r2 z q => ⟨e, he, q.1, q.2⟩)
theorem m_law {l : Launch} {G : zG} {b : Nat} {S : zS} {v0 : Int32} (h : jI S) {e} (he : D_X7_law 0 v0 S.2.1 = some e) : zM l G b yX8_law cX8_law 2 (some .int) 2 0 0 [.ref 200, .int v0] (S.1, e.2, S.2.2) (fun r z => r = some (.int e.1) ∧ jI z) := by
  obtain ⟨L, M, N⟩ := S
  obtain ⟨h7, h8, hv, hJ, hT, hF, hE, hO⟩ := h
  have he : D_X7_law 0 v0 M = some e := he
  have hv : vp_in (M 25 1) 8 := hv
  have hJ : jJ 200 M := hJ
  have hT : tpe 0 200 M M := hT
  have hF : flt 0 200 M M := hF
  have hE : eqE 0 200 M M := hE
  have hO : oX 0 200 M M := hO
  obtain ⟨e', he', kc, -⟩ := v_X7_law (P := 0) (M0 := M) (v0 := v0) hv
  rw [he] at he'
  cases he'
  have kc : ∀ a j, (200 ≤ a ∨ (a = 0 ∧ j = 1) ∨ a = 1 ∨ (a = 3 ∧ (j = 1 ∨ j = 2)) ∨ (a = 0 ∧ j = 2) ∨ a = 2) → e.2 a j = M a j := fun a j hh => kc a j (by unfold WM_X7_law; omega)
  have hJ' : jJ 200 e.2 := hJ.mono (fun a j q => kc a j (by omega))
  have hE' : eqE 0 200 M e.2 := hE.k (fun _ _ _ _ => rfl) (fun i j q => kc i j (by omega))
  obtain ⟨a, ea, b, eb, hab, hEq, hth⟩ := t_law hE' hJ' (v0 := v0)
  rw [he] at ea
  cases ea
  obtain ⟨b', eb', kb, hJ2⟩ := v_X8_law (P := 200) (M0 := e.2) (v0 := v0) hJ'.1 hJ'.2.1 hJ'.2.2.1 hJ'.2.2.2.1 hJ'.2.2.2.2
  rw [eb] at eb'
  cases eb'
  have kb : ∀ a j, (a < 200 ∨ (a = 200 ∧ (j = 11 ∨ j = 13 ∨ j = 14)) ∨ a = 207 ∨ (a = 200 ∧ j = 64) ∨ a = 232) → b.2 a j = e.2 a j := fun a j hh => kb a j (by unfold WM_X8_law; omega)
  have hE2 : eqE 0 200 b.2 b.2 := eqE.k (A := e.2) (B := b.2) hEq (fun i j _ _ => kb i j (by omega)) (fun _ _ _ => rfl)
  refine zM.weaken (t_X8_law (L := L) (N := N) h8 eb) (fun r2 z q2 => ?_)
  obtain ⟨rfl, rfl⟩ := q2
  have hab2 : e.1 = b.1 := hab
  have hX2 : oX 0 200 b.2 b.2 := hO.k (fun i j q => (kb i j (by omega)).trans (kc i j (by omega))) (fun i j q => (kb i j (by omega)).trans (kc i j (by omega)))
  exact ⟨by rw [hab2], h7, h8, hE2.vp, hJ2, hT.k (fun a j q => (kb a j (by omega)).trans (kc a j (by omega))) (fun a j q => (kb a j (by omega)).trans (kc a j (by omega))), hF.k (fun j q => (kb 3 j (by omega)).trans (kc 3 j (by omega))) (fun j q => (kb 200 j (by omega)).trans (kc 200 j (by omega))), hE2, hX2⟩
theorem f_prefer {l : Launch} {G : zG} {b : Nat} {S : zS} {v0 : Int32} (h : jI S) : zM l G b yX7_prefer cX7_prefer 3 (some .int) 4 0 0 [.ref 0, .int v0] S (fun r z => ∃ e, D_X7_prefer 0 v0 S.2.1 = some e ∧ r = some (.int e.1) ∧ z = (S.1, e.2, S.2.2)) := by
  obtain ⟨L, M, N⟩ := S
  obtain ⟨e, he, -⟩ := v_X7_prefer (P := 0) (M0 := M) (v0 := v0) h.2.2.1
  exact zM.weaken (t_X7_prefer (L := L) (N := N) h.1 he) (fun r2 z q => ⟨e, he, q.1, q.2⟩)
theorem m_prefer {l : Launch} {G : zG} {b : Nat} {S : zS} {v0 : Int32} (h : jI S) {e} (he : D_X7_prefer 0 v0 S.2.1 = some e) : zM l G b yX8_prefer cX8_prefer 2 (some .int) 2 0 0 [.ref 200, .int v0] (S.1, e.2, S.2.2) (fun r z => r = some (.int e.1) ∧ jI z) := by
  obtain ⟨L, M, N⟩ := S
  obtain ⟨h7, h8, hv, hJ, hT, hF, hE, hO⟩ := h
  have he : D_X7_prefer 0 v0 M = some e := he
  have hv : vp_in (M 25 1) 8 := hv
  have hJ : jJ 200 M := hJ
  have hT : tpe 0 200 M M := hT
  have hF : flt 0 200 M M := hF
  have hE : eqE 0 200 M M := hE
  have hO : oX 0 200 M M := hO
  obtain ⟨e', he', kc, -⟩ := v_X7_prefer (P := 0) (M0 := M) (v0 := v0) hv
  rw [he] at he'
  cases he'
  have kc : ∀ a j, (200 ≤ a ∨ (a = 0 ∧ j = 1) ∨ a = 1 ∨ (a = 3 ∧ (j = 1 ∨ j = 2)) ∨ (a = 0 ∧ j = 2) ∨ a = 2) → e.2 a j = M a j := fun a j hh => kc a j (by unfold WM_X7_prefer; omega)
  have hJ' : jJ 200 e.2 := hJ.mono (fun a j q => kc a j (by omega))
  have hE' : eqE 0 200 M e.2 := hE.k (fun _ _ _ _ => rfl) (fun i j q => kc i j (by omega))
  obtain ⟨a, ea, b, eb, hab, hEq, hth⟩ := t_prefer hE' hJ' (v0 := v0)
  rw [he] at ea
  cases ea
  obtain ⟨b', eb', kb, hJ2⟩ := v_X8_prefer (P := 200) (M0 := e.2) (v0 := v0) hJ'.1 hJ'.2.1 hJ'.2.2.1 hJ'.2.2.2.1 hJ'.2.2.2.2
  rw [eb] at eb'
  cases eb'
  have kb : ∀ a j, (a < 200 ∨ (a = 200 ∧ (j = 11 ∨ j = 13 ∨ j = 14)) ∨ a = 207 ∨ (a = 200 ∧ j = 64) ∨ a = 232) → b.2 a j = e.2 a j := fun a j hh => kb a j (by unfold WM_X8_prefer; omega)
  have hE2 : eqE 0 200 b.2 b.2 := eqE.k (A := e.2) (B := b.2) hEq (fun i j _ _ => kb i j (by omega)) (fun _ _ _ => rfl)
  refine zM.weaken (t_X8_prefer (L := L) (N := N) h8 eb) (fun r2 z q2 => ?_)
  obtain ⟨rfl, rfl⟩ := q2
  have hab2 : e.1 = b.1 := hab
  have hX2 : oX 0 200 b.2 b.2 := hO.k (fun i j q => (kb i j (by omega)).trans (kc i j (by omega))) (fun i j q => (kb i j (by omega)).trans (kc i j (by omega)))
  exact ⟨by rw [hab2], h7, h8, hE2.vp, hJ2, hT.k (fun a j q => (kb a j (by omega)).trans (kc a j (by omega))) (fun a j q => (kb a j (by omega)).trans (kc a j (by omega))), hF.k (fun j q => (kb 3 j (by omega)).trans (kc 3 j (by omega))) (fun j q => (kb 200 j (by omega)).trans (kc 200 j (by omega))), hE2, hX2⟩
theorem f_guests {l : Launch} {G : zG} {b : Nat} {S : zS} {v0 : Int32} (h : jI S) : zM l G b yX7_guests cX7_guests 3 (some .int) 4 0 0 [.ref 0, .int v0] S (fun r z => ∃ e, D_X7_guests 0 v0 S.2.1 = some e ∧ r = some (.int e.1) ∧ z = (S.1, e.2, S.2.2)) := by
  obtain ⟨L, M, N⟩ := S
  obtain ⟨e, he, -⟩ := v_X7_guests (P := 0) (M0 := M) (v0 := v0) h.2.2.1
  exact zM.weaken (t_X7_guests (L := L) (N := N) h.1 he) (fun r2 z q => ⟨e, he, q.1, q.2⟩)
theorem m_guests {l : Launch} {G : zG} {b : Nat} {S : zS} {v0 : Int32} (h : jI S) {e} (he : D_X7_guests 0 v0 S.2.1 = some e) : zM l G b yX8_guests cX8_guests 2 (some .int) 2 0 0 [.ref 200, .int v0] (S.1, e.2, S.2.2) (fun r z => r = some (.int e.1) ∧ jI z) := by
  obtain ⟨L, M, N⟩ := S
  obtain ⟨h7, h8, hv, hJ, hT, hF, hE, hO⟩ := h
  have he : D_X7_guests 0 v0 M = some e := he
  have hv : vp_in (M 25 1) 8 := hv
  have hJ : jJ 200 M := hJ
  have hT : tpe 0 200 M M := hT
  have hF : flt 0 200 M M := hF
  have hE : eqE 0 200 M M := hE
  have hO : oX 0 200 M M := hO
  obtain ⟨e', he', kc, -⟩ := v_X7_guests (P := 0) (M0 := M) (v0 := v0) hv
  rw [he] at he'
  cases he'
  have kc : ∀ a j, (200 ≤ a ∨ (a = 0 ∧ j = 1) ∨ a = 1 ∨ (a = 3 ∧ (j = 1 ∨ j = 2)) ∨ (a = 0 ∧ j = 2) ∨ a = 2) → e.2 a j = M a j := fun a j hh => kc a j (by unfold WM_X7_guests; omega)
  have hJ' : jJ 200 e.2 := hJ.mono (fun a j q => kc a j (by omega))
  have hE' : eqE 0 200 M e.2 := hE.k (fun _ _ _ _ => rfl) (fun i j q => kc i j (by omega))
  obtain ⟨a, ea, b, eb, hab, hEq, hth⟩ := t_guests hE' hJ' (v0 := v0)
  rw [he] at ea
  cases ea
  obtain ⟨b', eb', kb, hJ2⟩ := v_X8_guests (P := 200) (M0 := e.2) (v0 := v0) hJ'.1 hJ'.2.1 hJ'.2.2.1 hJ'.2.2.2.1 hJ'.2.2.2.2
  rw [eb] at eb'
  cases eb'
  have kb : ∀ a j, (a < 200 ∨ (a = 200 ∧ (j = 11 ∨ j = 13 ∨ j = 14)) ∨ a = 207 ∨ (a = 200 ∧ j = 64) ∨ a = 232) → b.2 a j = e.2 a j := fun a j hh => kb a j (by unfold WM_X8_guests; omega)
  have hE2 : eqE 0 200 b.2 b.2 := eqE.k (A := e.2) (B := b.2) hEq (fun i j _ _ => kb i j (by omega)) (fun _ _ _ => rfl)
  refine zM.weaken (t_X8_guests (L := L) (N := N) h8 eb) (fun r2 z q2 => ?_)
  obtain ⟨rfl, rfl⟩ := q2
  have hab2 : e.1 = b.1 := hab
  have hX2 : oX 0 200 b.2 b.2 := hO.k (fun i j q => (kb i j (by omega)).trans (kc i j (by omega))) (fun i j q => (kb i j (by omega)).trans (kc i j (by omega)))
  exact ⟨by rw [hab2], h7, h8, hE2.vp, hJ2, hT.k (fun a j q => (kb a j (by omega)).trans (kc a j (by omega))) (fun a j q => (kb a j (by omega)).trans (kc a j (by omega))), hF.k (fun j q => (kb 3 j (by omega)).trans (kc 3 j (by omega))) (fun j q => (kb 200 j (by omega)).trans (kc 200 j (by omega))), hE2, hX2⟩
theorem f_split {l : Launch} {G : zG} {b : Nat} {S : zS} {v0 : Int32} (h : jI S) : zM l G b yX7_split cX7_split 2 (some .int) 4 0 0 [.ref 0, .int v0] S (fun r z => ∃ e, D_X7_split 0 v0 S.2.1 = some e ∧ r = some (.int e.1) ∧ z = (S.1, e.2, S.2.2)) := by
  obtain ⟨L, M, N⟩ := S
  obtain ⟨e, he, -⟩ := v_X7_split (P := 0) (M0 := M) (v0 := v0) h.2.2.1
  exact zM.weaken (t_X7_split (L := L) (N := N) h.1 he) (fun r2 z q => ⟨e, he, q.1, q.2⟩)
theorem m_split {l : Launch} {G : zG} {b : Nat} {S : zS} {v0 : Int32} (h : jI S) {e} (he : D_X7_split 0 v0 S.2.1 = some e) : zM l G b yX8_split cX8_split 2 (some .int) 3 0 0 [.ref 200, .int v0] (S.1, e.2, S.2.2) (fun r z => r = some (.int e.1) ∧ jI z) := by
  obtain ⟨L, M, N⟩ := S
  obtain ⟨h7, h8, hv, hJ, hT, hF, hE, hO⟩ := h
  have he : D_X7_split 0 v0 M = some e := he
  have hv : vp_in (M 25 1) 8 := hv
  have hJ : jJ 200 M := hJ
  have hT : tpe 0 200 M M := hT
  have hF : flt 0 200 M M := hF
  have hE : eqE 0 200 M M := hE
  have hO : oX 0 200 M M := hO
  obtain ⟨e', he', kc, -⟩ := v_X7_split (P := 0) (M0 := M) (v0 := v0) hv
  rw [he] at he'
  cases he'
  have kc : ∀ a j, (200 ≤ a ∨ (a = 0 ∧ j = 1) ∨ a = 1 ∨ (a = 3 ∧ (j = 1 ∨ j = 2)) ∨ (a = 0 ∧ j = 2) ∨ a = 2) → e.2 a j = M a j := fun a j hh => kc a j (by unfold WM_X7_split; omega)
  have hJ' : jJ 200 e.2 := hJ.mono (fun a j q => kc a j (by omega))
  have hE' : eqE 0 200 M e.2 := hE.k (fun _ _ _ _ => rfl) (fun i j q => kc i j (by omega))
  obtain ⟨a, ea, b, eb, hab, hEq, hth⟩ := t_split hE' hJ' (v0 := v0)
  rw [he] at ea
  cases ea
  obtain ⟨b', eb', kb, hJ2⟩ := v_X8_split (P := 200) (M0 := e.2) (v0 := v0) hJ'.1 hJ'.2.1 hJ'.2.2.1 hJ'.2.2.2.1 hJ'.2.2.2.2
  rw [eb] at eb'
  cases eb'
  have kb : ∀ a j, (a < 200 ∨ (a = 200 ∧ (j = 11 ∨ j = 13 ∨ j = 14)) ∨ a = 207 ∨ (a = 200 ∧ j = 64) ∨ a = 232) → b.2 a j = e.2 a j := fun a j hh => kb a j (by unfold WM_X8_split; omega)
  have hE2 : eqE 0 200 b.2 b.2 := eqE.k (A := e.2) (B := b.2) hEq (fun i j _ _ => kb i j (by omega)) (fun _ _ _ => rfl)
  refine zM.weaken (t_X8_split (L := L) (N := N) h8 eb) (fun r2 z q2 => ?_)
  obtain ⟨rfl, rfl⟩ := q2
  have hab2 : e.1 = b.1 := hab
  have hX2 : oX 0 200 b.2 b.2 := hO.k (fun i j q => (kb i j (by omega)).trans (kc i j (by omega))) (fun i j q => (kb i j (by omega)).trans (kc i j (by omega)))
  exact ⟨by rw [hab2], h7, h8, hE2.vp, hJ2, hT.k (fun a j q => (kb a j (by omega)).trans (kc a j (by omega))) (fun a j q => (kb a j (by omega)).trans (kc a j (by omega))), hF.k (fun j q => (kb 3 j (by omega)).trans (kc 3 j (by omega))) (fun j q => (kb 200 j (by omega)).trans (kc 200 j (by omega))), hE2, hX2⟩
theorem f_undo {l : Launch} {G : zG} {b : Nat} {S : zS} (h : jI S) : zM l G b yX7_undo cX7_undo 1 (some .int) 4 0 0 [.ref 0] S (fun r z => ∃ e, D_X7_undo 0 S.2.1 = some e ∧ r = some (.int e.1) ∧ z = (S.1, e.2, S.2.2)) := by
  obtain ⟨L, M, N⟩ := S
  obtain ⟨e, he, -⟩ := v_X7_undo (P := 0) (M0 := M) h.2.2.1
  exact zM.weaken (t_X7_undo (L := L) (N := N) h.1 he) (fun r2 z q => ⟨e, he, q.1, q.2⟩)
theorem m_undo {l : Launch} {G : zG} {b : Nat} {S : zS} (h : jI S) {e} (he : D_X7_undo 0 S.2.1 = some e) : zM l G b yX8_undo cX8_undo 2 (some .int) 1 0 0 [.ref 200] (S.1, e.2, S.2.2) (fun r z => r = some (.int e.1) ∧ jI z) := by
  obtain ⟨L, M, N⟩ := S
  obtain ⟨h7, h8, hv, hJ, hT, hF, hE, hO⟩ := h
  have he : D_X7_undo 0 M = some e := he
  have hv : vp_in (M 25 1) 8 := hv
  have hJ : jJ 200 M := hJ
  have hT : tpe 0 200 M M := hT
  have hF : flt 0 200 M M := hF
  have hE : eqE 0 200 M M := hE
  have hO : oX 0 200 M M := hO
  obtain ⟨e', he', kc, -⟩ := v_X7_undo (P := 0) (M0 := M) hv
  rw [he] at he'
  cases he'
  have kc : ∀ a j, (200 ≤ a ∨ (a = 0 ∧ j = 1) ∨ a = 1 ∨ (a = 3 ∧ (j = 1 ∨ j = 2)) ∨ (a = 0 ∧ j = 2) ∨ a = 2) → e.2 a j = M a j := fun a j hh => kc a j (by unfold WM_X7_undo; omega)
  have hJ' : jJ 200 e.2 := hJ.mono (fun a j q => kc a j (by omega))
  have hE' : eqE 0 200 M e.2 := hE.k (fun _ _ _ _ => rfl) (fun i j q => kc i j (by omega))
  obtain ⟨a, ea, b, eb, hab, hEq, hth⟩ := t_undo hE' hJ'
  rw [he] at ea
  cases ea
  obtain ⟨b', eb', kb, hJ2⟩ := v_X8_undo (P := 200) (M0 := e.2) hJ'.1 hJ'.2.1 hJ'.2.2.1 hJ'.2.2.2.1 hJ'.2.2.2.2
  rw [eb] at eb'
  cases eb'
  have kb : ∀ a j, (a < 200 ∨ (a = 200 ∧ (j = 11 ∨ j = 13 ∨ j = 14)) ∨ a = 207 ∨ (a = 200 ∧ j = 64) ∨ a = 232) → b.2 a j = e.2 a j := fun a j hh => kb a j (by unfold WM_X8_undo; omega)
  have hE2 : eqE 0 200 b.2 b.2 := eqE.k (A := e.2) (B := b.2) hEq (fun i j _ _ => kb i j (by omega)) (fun _ _ _ => rfl)
  refine zM.weaken (t_X8_undo (L := L) (N := N) h8 eb) (fun r2 z q2 => ?_)
  obtain ⟨rfl, rfl⟩ := q2
  have hab2 : e.1 = b.1 := hab
  have hX2 : oX 0 200 b.2 b.2 := hO.k (fun i j q => (kb i j (by omega)).trans (kc i j (by omega))) (fun i j q => (kb i j (by omega)).trans (kc i j (by omega)))
  exact ⟨by rw [hab2], h7, h8, hE2.vp, hJ2, hT.k (fun a j q => (kb a j (by omega)).trans (kc a j (by omega))) (fun a j q => (kb a j (by omega)).trans (kc a j (by omega))), hF.k (fun j q => (kb 3 j (by omega)).trans (kc 3 j (by omega))) (fun j q => (kb 200 j (by omega)).trans (kc 200 j (by omega))), hE2, hX2⟩
theorem f_print {l : Launch} {G : zG} {b : Nat} {S : zS} {v0 : Int32} (h : jI S) : zM l G b yX7_print cX7_print 5 (some .int) 5 0 0 [.ref 0, .int v0] S (fun r z => ∃ e, D_X7_print 0 v0 S.2.1 = some e ∧ r = some (.int e.1) ∧ z = (S.1, e.2, S.2.2)) := by
  obtain ⟨L, M, N⟩ := S
  obtain ⟨e, he, -⟩ := v_X7_print (P := 0) (M0 := M) (v0 := v0)
  exact zM.weaken (t_X7_print (L := L) (N := N) h.1 he) (fun r2 z q => ⟨e, he, q.1, q.2⟩)
theorem m_print {l : Launch} {G : zG} {b : Nat} {S : zS} {v0 : Int32} (h : jI S) {e} (he : D_X7_print 0 v0 S.2.1 = some e) : zM l G b yX8_print cX8_print 4 (some .int) 5 0 0 [.ref 200, .int v0] (S.1, e.2, S.2.2) (fun r z => r = some (.int e.1) ∧ jI z) := by
  obtain ⟨L, M, N⟩ := S
  obtain ⟨h7, h8, hv, hJ, hT, hF, hE, hO⟩ := h
  have he : D_X7_print 0 v0 M = some e := he
  have hv : vp_in (M 25 1) 8 := hv
  have hJ : jJ 200 M := hJ
  have hT : tpe 0 200 M M := hT
  have hF : flt 0 200 M M := hF
  have hE : eqE 0 200 M M := hE
  have hO : oX 0 200 M M := hO
  obtain ⟨e', he', kc⟩ := v_X7_print (P := 0) (M0 := M) (v0 := v0)
  rw [he] at he'
  cases he'
  have kc : ∀ a j, (200 ≤ a ∨ (a = 0 ∧ j = 1) ∨ a = 1 ∨ (a = 3 ∧ (j = 1 ∨ j = 2)) ∨ (17 ≤ a ∧ a < 104)) → e.2 a j = M a j := fun a j hh => kc a j (by unfold WM_X7_print; omega)
  have hJ' : jJ 200 e.2 := hJ.mono (fun a j q => kc a j (by omega))
  have hE' : eqE 0 200 M e.2 := hE.k (fun _ _ _ _ => rfl) (fun i j q => kc i j (by omega))
  have hO' : oX 0 200 M e.2 := hO.k (fun _ _ _ => rfl) (fun i j q => kc i j (by omega))
  obtain ⟨a, ea, b, eb, hab, hth⟩ := t_printO hE' hJ' (N := N) (v0 := v0)
  replace hth := hth hO'
  rw [he] at ea
  cases ea
  obtain ⟨b', eb', kb, -, hJ2⟩ := v_X8_print (P := 200) (M0 := e.2) (N0 := N) (v0 := v0) hJ'.1 hJ'.2.1 hJ'.2.2.1 hJ'.2.2.2.1 hJ'.2.2.2.2
  rw [eb] at eb'
  cases eb'
  have kb : ∀ a j, (a < 200 ∨ (a = 200 ∧ (j = 11 ∨ j = 13 ∨ j = 14)) ∨ a = 207 ∨ (a = 200 ∧ (j = 7 ∨ j = 8 ∨ j = 9)) ∨ a = 204 ∨ a = 205 ∨ a = 201) → b.2.1 a j = e.2 a j := fun a j hh => kb a j (by unfold WM_X8_print; omega)
  have hE2 : eqE 0 200 b.2.1 b.2.1 := hE.k (fun i j _ _ => (kb i j (by omega)).trans (kc i j (by omega))) (fun i j q => (kb i j (by omega)).trans (kc i j (by omega)))
  refine zM.weaken (t_X8_print (L := L) (N := N) h8 eb) (fun r2 z q2 => ?_)
  obtain ⟨rfl, rfl⟩ := q2
  have hab2 : e.1 = b.1 := hab
  have hX2 : oX 0 200 b.2.1 b.2.1 := oX.k (A := e.2) (B := b.2.1) hth (fun i j q => kb i j (by omega)) (fun _ _ _ => rfl)
  exact ⟨by rw [hab2], h7, h8, hE2.vp, hJ2, hT.k (fun a j q => (kb a j (by omega)).trans (kc a j (by omega))) (fun a j q => (kb a j (by omega)).trans (kc a j (by omega))), hF.k (fun j q => (kb 3 j (by omega)).trans (kc 3 j (by omega))) (fun j q => (kb 200 j (by omega)).trans (kc 200 j (by omega))), hE2, hX2⟩
theorem f_out {l : Launch} {G : zG} {b : Nat} {S : zS} {v0 : Int32} (h : jI S) : zM l G b yX7_out cX7_out 2 (some .int) 1 0 0 [.ref 0, .int v0] S (fun r z => ∃ e, D_X7_out 0 v0 S.2.1 = some e ∧ r = some (.int e.1) ∧ z = (S.1, e.2, S.2.2)) := by
  obtain ⟨L, M, N⟩ := S
  obtain ⟨e, he, -⟩ := v_X7_out (P := 0) (M0 := M) (v0 := v0)
  exact zM.weaken (t_X7_out (L := L) (N := N) h.1 he) (fun r2 z q => ⟨e, he, q.1, q.2⟩)
theorem m_out {l : Launch} {G : zG} {b : Nat} {S : zS} {v0 : Int32} (h : jI S) {e} (he : D_X7_out 0 v0 S.2.1 = some e) : zM l G b yX8_out cX8_out 2 (some .int) 1 0 0 [.ref 200, .int v0] (S.1, e.2, S.2.2) (fun r z => r = some (.int e.1) ∧ jI z) := by
  obtain ⟨L, M, N⟩ := S
  obtain ⟨h7, h8, hv, hJ, hT, hF, hE, hO⟩ := h
  have he : D_X7_out 0 v0 M = some e := he
  have hv : vp_in (M 25 1) 8 := hv
  have hJ : jJ 200 M := hJ
  have hT : tpe 0 200 M M := hT
  have hF : flt 0 200 M M := hF
  have hE : eqE 0 200 M M := hE
  have hO : oX 0 200 M M := hO
  obtain ⟨e', he', kc⟩ := v_X7_out (P := 0) (M0 := M) (v0 := v0)
  rw [he] at he'
  cases he'
  have kc : ∀ a j, (200 ≤ a ∨ (a = 0 ∧ j = 1) ∨ a = 1 ∨ (a = 3 ∧ (j = 1 ∨ j = 2)) ∨ (17 ≤ a ∧ a < 104) ∨ (a = 0 ∧ j = 2) ∨ a = 2) → e.2 a j = M a j := fun a j hh => kc a j (by unfold WM_X7_out; omega)
  have hJ' : jJ 200 e.2 := hJ.mono (fun a j q => kc a j (by omega))
  have hE' : eqE 0 200 M e.2 := hE.k (fun _ _ _ _ => rfl) (fun i j q => kc i j (by omega))
  have hO' : oX 0 200 M e.2 := hO.k (fun _ _ _ => rfl) (fun i j q => kc i j (by omega))
  obtain ⟨a, ea, b, eb, hab⟩ := t_out hO' (v0 := v0)
  rw [he] at ea
  cases ea
  obtain ⟨b', eb', kb, hJ2⟩ := v_X8_out (P := 200) (M0 := e.2) (v0 := v0) hJ'.1 hJ'.2.1 hJ'.2.2.1 hJ'.2.2.2.1 hJ'.2.2.2.2
  rw [eb] at eb'
  cases eb'
  have kb : ∀ a j, (a < 200 ∨ (a = 200 ∧ (j = 11 ∨ j = 13 ∨ j = 14)) ∨ a = 207 ∨ (a = 200 ∧ (j = 7 ∨ j = 8 ∨ j = 9)) ∨ a = 204 ∨ a = 205 ∨ a = 201 ∨ (a = 200 ∧ j = 64) ∨ a = 232) → b.2 a j = e.2 a j := fun a j hh => kb a j (by unfold WM_X8_out; omega)
  have hE2 : eqE 0 200 b.2 b.2 := hE.k (fun i j _ _ => (kb i j (by omega)).trans (kc i j (by omega))) (fun i j q => (kb i j (by omega)).trans (kc i j (by omega)))
  refine zM.weaken (t_X8_out (L := L) (N := N) h8 eb) (fun r2 z q2 => ?_)
  obtain ⟨rfl, rfl⟩ := q2
  have hab2 : e.1 = b.1 := hab
  have hX2 : oX 0 200 b.2 b.2 := hO.k (fun i j q => (kb i j (by omega)).trans (kc i j (by omega))) (fun i j q => (kb i j (by omega)).trans (kc i j (by omega)))
  exact ⟨by rw [hab2], h7, h8, hE2.vp, hJ2, hT.k (fun a j q => (kb a j (by omega)).trans (kc a j (by omega))) (fun a j q => (kb a j (by omega)).trans (kc a j (by omega))), hF.k (fun j q => (kb 3 j (by omega)).trans (kc 3 j (by omega))) (fun j q => (kb 200 j (by omega)).trans (kc 200 j (by omega))), hE2, hX2⟩
