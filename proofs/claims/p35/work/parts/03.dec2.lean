theorem sdL_law_1638 : dz_Seg cL_law [(1638, .aload_n 0, 1), (1639, .iload_n 3, 1), (1640, .iconst 1, 1), (1641, .iadd, 1), (1642, .iaload, 1), (1643, .invokevirtual 200, 3), (1646, .pop, 1), (1647, .goto 85, 3)] := dz_sg _ 1638 (by decide +kernel)
theorem dL_law_1638 : decode cL_law 1638 = .ok (.aload_n 0, 1) := sdL_law_1638.1
theorem dL_law_1639 : decode cL_law 1639 = .ok (.iload_n 3, 1) := sdL_law_1638.2.1
theorem dL_law_1640 : decode cL_law 1640 = .ok (.iconst 1, 1) := sdL_law_1638.2.2.1
theorem dL_law_1641 : decode cL_law 1641 = .ok (.iadd, 1) := sdL_law_1638.2.2.2.1
theorem dL_law_1642 : decode cL_law 1642 = .ok (.iaload, 1) := sdL_law_1638.2.2.2.2.1
theorem dL_law_1643 : decode cL_law 1643 = .ok (.invokevirtual 200, 3) := sdL_law_1638.2.2.2.2.2.1
theorem dL_law_1646 : decode cL_law 1646 = .ok (.pop, 1) := sdL_law_1638.2.2.2.2.2.2.1
theorem dL_law_1647 : decode cL_law 1647 = .ok (.goto 85, 3) := sdL_law_1638.2.2.2.2.2.2.2.1
theorem sdL_law_1650 : dz_Seg cL_law [(1650, .aload_n 1, 1), (1651, .aload_n 0, 1), (1652, .iload_n 3, 1), (1653, .iconst 1, 1), (1654, .iadd, 1), (1655, .iaload, 1), (1656, .invokevirtual 201, 3), (1659, .pop, 1)] := dz_sg _ 1650 (by decide +kernel)
theorem dL_law_1650 : decode cL_law 1650 = .ok (.aload_n 1, 1) := sdL_law_1650.1
theorem dL_law_1651 : decode cL_law 1651 = .ok (.aload_n 0, 1) := sdL_law_1650.2.1
theorem dL_law_1652 : decode cL_law 1652 = .ok (.iload_n 3, 1) := sdL_law_1650.2.2.1
theorem dL_law_1653 : decode cL_law 1653 = .ok (.iconst 1, 1) := sdL_law_1650.2.2.2.1
theorem dL_law_1654 : decode cL_law 1654 = .ok (.iadd, 1) := sdL_law_1650.2.2.2.2.1
theorem dL_law_1655 : decode cL_law 1655 = .ok (.iaload, 1) := sdL_law_1650.2.2.2.2.2.1
theorem dL_law_1656 : decode cL_law 1656 = .ok (.invokevirtual 201, 3) := sdL_law_1650.2.2.2.2.2.2.1
theorem dL_law_1659 : decode cL_law 1659 = .ok (.pop, 1) := sdL_law_1650.2.2.2.2.2.2.2.1
theorem sdL_law_1660 : dz_Seg cL_law [(1660, .aload_n 2, 1), (1661, .aload_n 0, 1), (1662, .iload_n 3, 1), (1663, .iconst 1, 1), (1664, .iadd, 1), (1665, .iaload, 1), (1666, .invokevirtual 204, 3), (1669, .pop, 1)] := dz_sg _ 1660 (by decide +kernel)
theorem dL_law_1660 : decode cL_law 1660 = .ok (.aload_n 2, 1) := sdL_law_1660.1
theorem dL_law_1661 : decode cL_law 1661 = .ok (.aload_n 0, 1) := sdL_law_1660.2.1
theorem dL_law_1662 : decode cL_law 1662 = .ok (.iload_n 3, 1) := sdL_law_1660.2.2.1
theorem dL_law_1663 : decode cL_law 1663 = .ok (.iconst 1, 1) := sdL_law_1660.2.2.2.1
theorem dL_law_1664 : decode cL_law 1664 = .ok (.iadd, 1) := sdL_law_1660.2.2.2.2.1
theorem dL_law_1665 : decode cL_law 1665 = .ok (.iaload, 1) := sdL_law_1660.2.2.2.2.2.1
theorem dL_law_1666 : decode cL_law 1666 = .ok (.invokevirtual 204, 3) := sdL_law_1660.2.2.2.2.2.2.1
theorem dL_law_1669 : decode cL_law 1669 = .ok (.pop, 1) := sdL_law_1660.2.2.2.2.2.2.2.1
theorem sdL_law_1670 : dz_Seg cL_law [(1670, .goto 62, 3), (1673, .aload_n 1, 1), (1674, .invokevirtual 205, 3), (1677, .pop, 1), (1678, .aload_n 2, 1), (1679, .invokevirtual 208, 3), (1682, .pop, 1), (1683, .goto 49, 3)] := dz_sg _ 1670 (by decide +kernel)
theorem dL_law_1670 : decode cL_law 1670 = .ok (.goto 62, 3) := sdL_law_1670.1
theorem dL_law_1673 : decode cL_law 1673 = .ok (.aload_n 1, 1) := sdL_law_1670.2.1
theorem dL_law_1674 : decode cL_law 1674 = .ok (.invokevirtual 205, 3) := sdL_law_1670.2.2.1
theorem dL_law_1677 : decode cL_law 1677 = .ok (.pop, 1) := sdL_law_1670.2.2.2.1
theorem dL_law_1678 : decode cL_law 1678 = .ok (.aload_n 2, 1) := sdL_law_1670.2.2.2.2.1
theorem dL_law_1679 : decode cL_law 1679 = .ok (.invokevirtual 208, 3) := sdL_law_1670.2.2.2.2.2.1
theorem dL_law_1682 : decode cL_law 1682 = .ok (.pop, 1) := sdL_law_1670.2.2.2.2.2.2.1
theorem dL_law_1683 : decode cL_law 1683 = .ok (.goto 49, 3) := sdL_law_1670.2.2.2.2.2.2.2.1
theorem sdL_law_1686 : dz_Seg cL_law [(1686, .aload_n 1, 1), (1687, .aload_n 0, 1), (1688, .iload_n 3, 1), (1689, .iconst 1, 1), (1690, .iadd, 1), (1691, .iaload, 1), (1692, .invokevirtual 209, 3), (1695, .pop, 1)] := dz_sg _ 1686 (by decide +kernel)
theorem dL_law_1686 : decode cL_law 1686 = .ok (.aload_n 1, 1) := sdL_law_1686.1
theorem dL_law_1687 : decode cL_law 1687 = .ok (.aload_n 0, 1) := sdL_law_1686.2.1
theorem dL_law_1688 : decode cL_law 1688 = .ok (.iload_n 3, 1) := sdL_law_1686.2.2.1
theorem dL_law_1689 : decode cL_law 1689 = .ok (.iconst 1, 1) := sdL_law_1686.2.2.2.1
theorem dL_law_1690 : decode cL_law 1690 = .ok (.iadd, 1) := sdL_law_1686.2.2.2.2.1
theorem dL_law_1691 : decode cL_law 1691 = .ok (.iaload, 1) := sdL_law_1686.2.2.2.2.2.1
theorem dL_law_1692 : decode cL_law 1692 = .ok (.invokevirtual 209, 3) := sdL_law_1686.2.2.2.2.2.2.1
theorem dL_law_1695 : decode cL_law 1695 = .ok (.pop, 1) := sdL_law_1686.2.2.2.2.2.2.2.1
theorem sdL_law_1696 : dz_Seg cL_law [(1696, .aload_n 2, 1), (1697, .aload_n 0, 1), (1698, .iload_n 3, 1), (1699, .iconst 1, 1), (1700, .iadd, 1), (1701, .iaload, 1), (1702, .invokevirtual 212, 3), (1705, .pop, 1)] := dz_sg _ 1696 (by decide +kernel)
theorem dL_law_1696 : decode cL_law 1696 = .ok (.aload_n 2, 1) := sdL_law_1696.1
theorem dL_law_1697 : decode cL_law 1697 = .ok (.aload_n 0, 1) := sdL_law_1696.2.1
theorem dL_law_1698 : decode cL_law 1698 = .ok (.iload_n 3, 1) := sdL_law_1696.2.2.1
theorem dL_law_1699 : decode cL_law 1699 = .ok (.iconst 1, 1) := sdL_law_1696.2.2.2.1
theorem dL_law_1700 : decode cL_law 1700 = .ok (.iadd, 1) := sdL_law_1696.2.2.2.2.1
theorem dL_law_1701 : decode cL_law 1701 = .ok (.iaload, 1) := sdL_law_1696.2.2.2.2.2.1
theorem dL_law_1702 : decode cL_law 1702 = .ok (.invokevirtual 212, 3) := sdL_law_1696.2.2.2.2.2.2.1
theorem dL_law_1705 : decode cL_law 1705 = .ok (.pop, 1) := sdL_law_1696.2.2.2.2.2.2.2.1
theorem sdL_law_1706 : dz_Seg cL_law [(1706, .goto 26, 3), (1709, .aload_n 1, 1), (1710, .aload_n 0, 1), (1711, .iload_n 3, 1), (1712, .iconst 1, 1), (1713, .iadd, 1), (1714, .iaload, 1), (1715, .invokevirtual 213, 3)] := dz_sg _ 1706 (by decide +kernel)
theorem dL_law_1706 : decode cL_law 1706 = .ok (.goto 26, 3) := sdL_law_1706.1
theorem dL_law_1709 : decode cL_law 1709 = .ok (.aload_n 1, 1) := sdL_law_1706.2.1
theorem dL_law_1710 : decode cL_law 1710 = .ok (.aload_n 0, 1) := sdL_law_1706.2.2.1
theorem dL_law_1711 : decode cL_law 1711 = .ok (.iload_n 3, 1) := sdL_law_1706.2.2.2.1
theorem dL_law_1712 : decode cL_law 1712 = .ok (.iconst 1, 1) := sdL_law_1706.2.2.2.2.1
theorem dL_law_1713 : decode cL_law 1713 = .ok (.iadd, 1) := sdL_law_1706.2.2.2.2.2.1
theorem dL_law_1714 : decode cL_law 1714 = .ok (.iaload, 1) := sdL_law_1706.2.2.2.2.2.2.1
theorem dL_law_1715 : decode cL_law 1715 = .ok (.invokevirtual 213, 3) := sdL_law_1706.2.2.2.2.2.2.2.1
theorem sdL_law_1718 : dz_Seg cL_law [(1718, .pop, 1), (1719, .aload_n 2, 1), (1720, .aload_n 0, 1), (1721, .iload_n 3, 1), (1722, .iconst 1, 1), (1723, .iadd, 1), (1724, .iaload, 1), (1725, .invokevirtual 216, 3)] := dz_sg _ 1718 (by decide +kernel)
theorem dL_law_1718 : decode cL_law 1718 = .ok (.pop, 1) := sdL_law_1718.1
theorem dL_law_1719 : decode cL_law 1719 = .ok (.aload_n 2, 1) := sdL_law_1718.2.1
theorem dL_law_1720 : decode cL_law 1720 = .ok (.aload_n 0, 1) := sdL_law_1718.2.2.1
theorem dL_law_1721 : decode cL_law 1721 = .ok (.iload_n 3, 1) := sdL_law_1718.2.2.2.1
theorem dL_law_1722 : decode cL_law 1722 = .ok (.iconst 1, 1) := sdL_law_1718.2.2.2.2.1
theorem dL_law_1723 : decode cL_law 1723 = .ok (.iadd, 1) := sdL_law_1718.2.2.2.2.2.1
theorem dL_law_1724 : decode cL_law 1724 = .ok (.iaload, 1) := sdL_law_1718.2.2.2.2.2.2.1
theorem dL_law_1725 : decode cL_law 1725 = .ok (.invokevirtual 216, 3) := sdL_law_1718.2.2.2.2.2.2.2.1
theorem sdL_law_1728 : dz_Seg cL_law [(1728, .pop, 1), (1729, .goto 3, 3), (1732, .iinc 3 6, 3), (1735, .goto (-1717), 3), (1738, .iconst 1, 1), (1739, .ireturn, 1)] := dz_sg _ 1728 (by decide +kernel)
theorem dL_law_1728 : decode cL_law 1728 = .ok (.pop, 1) := sdL_law_1728.1
theorem dL_law_1729 : decode cL_law 1729 = .ok (.goto 3, 3) := sdL_law_1728.2.1
theorem dL_law_1732 : decode cL_law 1732 = .ok (.iinc 3 6, 3) := sdL_law_1728.2.2.1
theorem dL_law_1735 : decode cL_law 1735 = .ok (.goto (-1717), 3) := sdL_law_1728.2.2.2.1
theorem dL_law_1738 : decode cL_law 1738 = .ok (.iconst 1, 1) := sdL_law_1728.2.2.2.2.1
theorem dL_law_1739 : decode cL_law 1739 = .ok (.ireturn, 1) := sdL_law_1728.2.2.2.2.2.1
