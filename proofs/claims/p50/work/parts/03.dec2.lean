theorem sdL_law_1638 : dz_Seg cL_law [(1638, .iload_n 3, 1), (1639, .iconst 1, 1), (1640, .iadd, 1), (1641, .iaload, 1), (1642, .invokevirtual 200, 3), (1645, .pop, 1), (1646, .goto 85, 3), (1649, .aload_n 1, 1)] := dz_sg _ 1638 (by decide +kernel)
theorem dL_law_1638 : decode cL_law 1638 = .ok (.iload_n 3, 1) := sdL_law_1638.1
theorem dL_law_1639 : decode cL_law 1639 = .ok (.iconst 1, 1) := sdL_law_1638.2.1
theorem dL_law_1640 : decode cL_law 1640 = .ok (.iadd, 1) := sdL_law_1638.2.2.1
theorem dL_law_1641 : decode cL_law 1641 = .ok (.iaload, 1) := sdL_law_1638.2.2.2.1
theorem dL_law_1642 : decode cL_law 1642 = .ok (.invokevirtual 200, 3) := sdL_law_1638.2.2.2.2.1
theorem dL_law_1645 : decode cL_law 1645 = .ok (.pop, 1) := sdL_law_1638.2.2.2.2.2.1
theorem dL_law_1646 : decode cL_law 1646 = .ok (.goto 85, 3) := sdL_law_1638.2.2.2.2.2.2.1
theorem dL_law_1649 : decode cL_law 1649 = .ok (.aload_n 1, 1) := sdL_law_1638.2.2.2.2.2.2.2.1
theorem sdL_law_1650 : dz_Seg cL_law [(1650, .aload_n 0, 1), (1651, .iload_n 3, 1), (1652, .iconst 1, 1), (1653, .iadd, 1), (1654, .iaload, 1), (1655, .invokevirtual 201, 3), (1658, .pop, 1), (1659, .aload_n 2, 1)] := dz_sg _ 1650 (by decide +kernel)
theorem dL_law_1650 : decode cL_law 1650 = .ok (.aload_n 0, 1) := sdL_law_1650.1
theorem dL_law_1651 : decode cL_law 1651 = .ok (.iload_n 3, 1) := sdL_law_1650.2.1
theorem dL_law_1652 : decode cL_law 1652 = .ok (.iconst 1, 1) := sdL_law_1650.2.2.1
theorem dL_law_1653 : decode cL_law 1653 = .ok (.iadd, 1) := sdL_law_1650.2.2.2.1
theorem dL_law_1654 : decode cL_law 1654 = .ok (.iaload, 1) := sdL_law_1650.2.2.2.2.1
theorem dL_law_1655 : decode cL_law 1655 = .ok (.invokevirtual 201, 3) := sdL_law_1650.2.2.2.2.2.1
theorem dL_law_1658 : decode cL_law 1658 = .ok (.pop, 1) := sdL_law_1650.2.2.2.2.2.2.1
theorem dL_law_1659 : decode cL_law 1659 = .ok (.aload_n 2, 1) := sdL_law_1650.2.2.2.2.2.2.2.1
theorem sdL_law_1660 : dz_Seg cL_law [(1660, .aload_n 0, 1), (1661, .iload_n 3, 1), (1662, .iconst 1, 1), (1663, .iadd, 1), (1664, .iaload, 1), (1665, .invokevirtual 204, 3), (1668, .pop, 1), (1669, .goto 62, 3)] := dz_sg _ 1660 (by decide +kernel)
theorem dL_law_1660 : decode cL_law 1660 = .ok (.aload_n 0, 1) := sdL_law_1660.1
theorem dL_law_1661 : decode cL_law 1661 = .ok (.iload_n 3, 1) := sdL_law_1660.2.1
theorem dL_law_1662 : decode cL_law 1662 = .ok (.iconst 1, 1) := sdL_law_1660.2.2.1
theorem dL_law_1663 : decode cL_law 1663 = .ok (.iadd, 1) := sdL_law_1660.2.2.2.1
theorem dL_law_1664 : decode cL_law 1664 = .ok (.iaload, 1) := sdL_law_1660.2.2.2.2.1
theorem dL_law_1665 : decode cL_law 1665 = .ok (.invokevirtual 204, 3) := sdL_law_1660.2.2.2.2.2.1
theorem dL_law_1668 : decode cL_law 1668 = .ok (.pop, 1) := sdL_law_1660.2.2.2.2.2.2.1
theorem dL_law_1669 : decode cL_law 1669 = .ok (.goto 62, 3) := sdL_law_1660.2.2.2.2.2.2.2.1
theorem sdL_law_1672 : dz_Seg cL_law [(1672, .aload_n 1, 1), (1673, .invokevirtual 205, 3), (1676, .pop, 1), (1677, .aload_n 2, 1), (1678, .invokevirtual 208, 3), (1681, .pop, 1), (1682, .goto 49, 3), (1685, .aload_n 1, 1)] := dz_sg _ 1672 (by decide +kernel)
theorem dL_law_1672 : decode cL_law 1672 = .ok (.aload_n 1, 1) := sdL_law_1672.1
theorem dL_law_1673 : decode cL_law 1673 = .ok (.invokevirtual 205, 3) := sdL_law_1672.2.1
theorem dL_law_1676 : decode cL_law 1676 = .ok (.pop, 1) := sdL_law_1672.2.2.1
theorem dL_law_1677 : decode cL_law 1677 = .ok (.aload_n 2, 1) := sdL_law_1672.2.2.2.1
theorem dL_law_1678 : decode cL_law 1678 = .ok (.invokevirtual 208, 3) := sdL_law_1672.2.2.2.2.1
theorem dL_law_1681 : decode cL_law 1681 = .ok (.pop, 1) := sdL_law_1672.2.2.2.2.2.1
theorem dL_law_1682 : decode cL_law 1682 = .ok (.goto 49, 3) := sdL_law_1672.2.2.2.2.2.2.1
theorem dL_law_1685 : decode cL_law 1685 = .ok (.aload_n 1, 1) := sdL_law_1672.2.2.2.2.2.2.2.1
theorem sdL_law_1686 : dz_Seg cL_law [(1686, .aload_n 0, 1), (1687, .iload_n 3, 1), (1688, .iconst 1, 1), (1689, .iadd, 1), (1690, .iaload, 1), (1691, .invokevirtual 209, 3), (1694, .pop, 1), (1695, .aload_n 2, 1)] := dz_sg _ 1686 (by decide +kernel)
theorem dL_law_1686 : decode cL_law 1686 = .ok (.aload_n 0, 1) := sdL_law_1686.1
theorem dL_law_1687 : decode cL_law 1687 = .ok (.iload_n 3, 1) := sdL_law_1686.2.1
theorem dL_law_1688 : decode cL_law 1688 = .ok (.iconst 1, 1) := sdL_law_1686.2.2.1
theorem dL_law_1689 : decode cL_law 1689 = .ok (.iadd, 1) := sdL_law_1686.2.2.2.1
theorem dL_law_1690 : decode cL_law 1690 = .ok (.iaload, 1) := sdL_law_1686.2.2.2.2.1
theorem dL_law_1691 : decode cL_law 1691 = .ok (.invokevirtual 209, 3) := sdL_law_1686.2.2.2.2.2.1
theorem dL_law_1694 : decode cL_law 1694 = .ok (.pop, 1) := sdL_law_1686.2.2.2.2.2.2.1
theorem dL_law_1695 : decode cL_law 1695 = .ok (.aload_n 2, 1) := sdL_law_1686.2.2.2.2.2.2.2.1
theorem sdL_law_1696 : dz_Seg cL_law [(1696, .aload_n 0, 1), (1697, .iload_n 3, 1), (1698, .iconst 1, 1), (1699, .iadd, 1), (1700, .iaload, 1), (1701, .invokevirtual 212, 3), (1704, .pop, 1), (1705, .goto 26, 3)] := dz_sg _ 1696 (by decide +kernel)
theorem dL_law_1696 : decode cL_law 1696 = .ok (.aload_n 0, 1) := sdL_law_1696.1
theorem dL_law_1697 : decode cL_law 1697 = .ok (.iload_n 3, 1) := sdL_law_1696.2.1
theorem dL_law_1698 : decode cL_law 1698 = .ok (.iconst 1, 1) := sdL_law_1696.2.2.1
theorem dL_law_1699 : decode cL_law 1699 = .ok (.iadd, 1) := sdL_law_1696.2.2.2.1
theorem dL_law_1700 : decode cL_law 1700 = .ok (.iaload, 1) := sdL_law_1696.2.2.2.2.1
theorem dL_law_1701 : decode cL_law 1701 = .ok (.invokevirtual 212, 3) := sdL_law_1696.2.2.2.2.2.1
theorem dL_law_1704 : decode cL_law 1704 = .ok (.pop, 1) := sdL_law_1696.2.2.2.2.2.2.1
theorem dL_law_1705 : decode cL_law 1705 = .ok (.goto 26, 3) := sdL_law_1696.2.2.2.2.2.2.2.1
theorem sdL_law_1708 : dz_Seg cL_law [(1708, .aload_n 1, 1), (1709, .aload_n 0, 1), (1710, .iload_n 3, 1), (1711, .iconst 1, 1), (1712, .iadd, 1), (1713, .iaload, 1), (1714, .invokevirtual 213, 3), (1717, .aload_n 2, 1)] := dz_sg _ 1708 (by decide +kernel)
theorem dL_law_1708 : decode cL_law 1708 = .ok (.aload_n 1, 1) := sdL_law_1708.1
theorem dL_law_1709 : decode cL_law 1709 = .ok (.aload_n 0, 1) := sdL_law_1708.2.1
theorem dL_law_1710 : decode cL_law 1710 = .ok (.iload_n 3, 1) := sdL_law_1708.2.2.1
theorem dL_law_1711 : decode cL_law 1711 = .ok (.iconst 1, 1) := sdL_law_1708.2.2.2.1
theorem dL_law_1712 : decode cL_law 1712 = .ok (.iadd, 1) := sdL_law_1708.2.2.2.2.1
theorem dL_law_1713 : decode cL_law 1713 = .ok (.iaload, 1) := sdL_law_1708.2.2.2.2.2.1
theorem dL_law_1714 : decode cL_law 1714 = .ok (.invokevirtual 213, 3) := sdL_law_1708.2.2.2.2.2.2.1
theorem dL_law_1717 : decode cL_law 1717 = .ok (.aload_n 2, 1) := sdL_law_1708.2.2.2.2.2.2.2.1
theorem sdL_law_1718 : dz_Seg cL_law [(1718, .aload_n 0, 1), (1719, .iload_n 3, 1), (1720, .iconst 1, 1), (1721, .iadd, 1), (1722, .iaload, 1), (1723, .invokevirtual 216, 3), (1726, .if_icmp .eq 5, 3), (1729, .iconst 0, 1)] := dz_sg _ 1718 (by decide +kernel)
theorem dL_law_1718 : decode cL_law 1718 = .ok (.aload_n 0, 1) := sdL_law_1718.1
theorem dL_law_1719 : decode cL_law 1719 = .ok (.iload_n 3, 1) := sdL_law_1718.2.1
theorem dL_law_1720 : decode cL_law 1720 = .ok (.iconst 1, 1) := sdL_law_1718.2.2.1
theorem dL_law_1721 : decode cL_law 1721 = .ok (.iadd, 1) := sdL_law_1718.2.2.2.1
theorem dL_law_1722 : decode cL_law 1722 = .ok (.iaload, 1) := sdL_law_1718.2.2.2.2.1
theorem dL_law_1723 : decode cL_law 1723 = .ok (.invokevirtual 216, 3) := sdL_law_1718.2.2.2.2.2.1
theorem dL_law_1726 : decode cL_law 1726 = .ok (.if_icmp .eq 5, 3) := sdL_law_1718.2.2.2.2.2.2.1
theorem dL_law_1729 : decode cL_law 1729 = .ok (.iconst 0, 1) := sdL_law_1718.2.2.2.2.2.2.2.1
theorem sdL_law_1730 : dz_Seg cL_law [(1730, .ireturn, 1), (1731, .iinc 3 6, 3), (1734, .goto (-1716), 3), (1737, .iconst 1, 1), (1738, .ireturn, 1)] := dz_sg _ 1730 (by decide +kernel)
theorem dL_law_1730 : decode cL_law 1730 = .ok (.ireturn, 1) := sdL_law_1730.1
theorem dL_law_1731 : decode cL_law 1731 = .ok (.iinc 3 6, 3) := sdL_law_1730.2.1
theorem dL_law_1734 : decode cL_law 1734 = .ok (.goto (-1716), 3) := sdL_law_1730.2.2.1
theorem dL_law_1737 : decode cL_law 1737 = .ok (.iconst 1, 1) := sdL_law_1730.2.2.2.1
theorem dL_law_1738 : decode cL_law 1738 = .ok (.ireturn, 1) := sdL_law_1730.2.2.2.2.1
