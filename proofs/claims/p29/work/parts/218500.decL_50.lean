def sL_law_1834 : List UInt8 := 172 :: []
def sL_law_1833 : List UInt8 := 4 :: sL_law_1834
def sL_law_1830 : List UInt8 := 167 :: 248 :: 241 :: sL_law_1833
def sL_law_1827 : List UInt8 := 132 :: 4 :: 6 :: sL_law_1830
def sL_law_1824 : List UInt8 := 167 :: 0 :: 3 :: sL_law_1827
def sL_law_1823 : List UInt8 := 87 :: sL_law_1824
def sL_law_1820 : List UInt8 := 182 :: 0 :: 254 :: sL_law_1823
def sL_law_1819 : List UInt8 := 44 :: sL_law_1820
def sL_law_1818 : List UInt8 := 87 :: sL_law_1819
def sL_law_1815 : List UInt8 := 182 :: 0 :: 251 :: sL_law_1818
def sL_law_1814 : List UInt8 := 43 :: sL_law_1815
def sL_law_1811 : List UInt8 := 167 :: 0 :: 16 :: sL_law_1814
def sL_law_1810 : List UInt8 := 87 :: sL_law_1811
def sL_law_1807 : List UInt8 := 182 :: 0 :: 250 :: sL_law_1810
def sL_law_1806 : List UInt8 := 46 :: sL_law_1807
def sL_law_1805 : List UInt8 := 96 :: sL_law_1806
def sL_law_1804 : List UInt8 := 4 :: sL_law_1805
def sL_law_1802 : List UInt8 := 21 :: 4 :: sL_law_1804
def sL_law_1801 : List UInt8 := 42 :: sL_law_1802
def sL_law_1800 : List UInt8 := 44 :: sL_law_1801
def sL_law_1799 : List UInt8 := 87 :: sL_law_1800
def sL_law_1796 : List UInt8 := 182 :: 0 :: 247 :: sL_law_1799
def sL_law_1795 : List UInt8 := 46 :: sL_law_1796
def sL_law_1794 : List UInt8 := 96 :: sL_law_1795
def sL_law_1793 : List UInt8 := 4 :: sL_law_1794
def sL_law_1791 : List UInt8 := 21 :: 4 :: sL_law_1793
def sL_law_1790 : List UInt8 := 42 :: sL_law_1791
def sL_law_1789 : List UInt8 := 43 :: sL_law_1790
def sL_law_1786 : List UInt8 := 167 :: 0 :: 41 :: sL_law_1789
def sL_law_1784 : List UInt8 := 54 :: 6 :: sL_law_1786
def sL_law_1781 : List UInt8 := 182 :: 0 :: 246 :: sL_law_1784
def sL_law_1780 : List UInt8 := 46 :: sL_law_1781
def sL_law_1779 : List UInt8 := 96 :: sL_law_1780
def sL_law_1778 : List UInt8 := 4 :: sL_law_1779
def sL_law_1776 : List UInt8 := 21 :: 4 :: sL_law_1778
def sL_law_1775 : List UInt8 := 42 :: sL_law_1776
def sL_law_1774 : List UInt8 := 44 :: sL_law_1775
def sL_law_1772 : List UInt8 := 54 :: 5 :: sL_law_1774
def sL_law_1769 : List UInt8 := 184 :: 0 :: 241 :: sL_law_1772
def sL_law_1768 : List UInt8 := 45 :: sL_law_1769
def sL_law_1767 : List UInt8 := 46 :: sL_law_1768
def sL_law_1766 : List UInt8 := 96 :: sL_law_1767
def sL_law_1765 : List UInt8 := 4 :: sL_law_1766
def sL_law_1763 : List UInt8 := 21 :: 4 :: sL_law_1765
def sL_law_1762 : List UInt8 := 42 :: sL_law_1763
def sL_law_1761 : List UInt8 := 43 :: sL_law_1762
def sL_law_1758 : List UInt8 := 167 :: 0 :: 69 :: sL_law_1761
def sL_law_1757 : List UInt8 := 87 :: sL_law_1758
def sL_law_1754 : List UInt8 := 182 :: 0 :: 240 :: sL_law_1757
def sL_law_1753 : List UInt8 := 46 :: sL_law_1754
def sL_law_1752 : List UInt8 := 96 :: sL_law_1753
def sL_law_1751 : List UInt8 := 4 :: sL_law_1752
def sL_law_1749 : List UInt8 := 21 :: 4 :: sL_law_1751
def sL_law_1748 : List UInt8 := 42 :: sL_law_1749
def sL_law_1747 : List UInt8 := 44 :: sL_law_1748
def sL_law_1746 : List UInt8 := 87 :: sL_law_1747
def sL_law_1743 : List UInt8 := 182 :: 0 :: 236 :: sL_law_1746
def sL_law_1742 : List UInt8 := 46 :: sL_law_1743
def sL_law_1741 : List UInt8 := 96 :: sL_law_1742
def sL_law_1740 : List UInt8 := 4 :: sL_law_1741
def sL_law_1738 : List UInt8 := 21 :: 4 :: sL_law_1740
def sL_law_1737 : List UInt8 := 42 :: sL_law_1738
def sL_law_1736 : List UInt8 := 43 :: sL_law_1737
def sL_law_1733 : List UInt8 := 167 :: 0 :: 94 :: sL_law_1736
def sL_law_1732 : List UInt8 := 87 :: sL_law_1733
def sL_law_1729 : List UInt8 := 182 :: 0 :: 235 :: sL_law_1732
def sL_law_1728 : List UInt8 := 44 :: sL_law_1729
def sL_law_1727 : List UInt8 := 87 :: sL_law_1728
def sL_law_1724 : List UInt8 := 182 :: 0 :: 232 :: sL_law_1727
def sL_law_1723 : List UInt8 := 43 :: sL_law_1724
def sL_law_1720 : List UInt8 := 167 :: 0 :: 107 :: sL_law_1723
def sL_law_1719 : List UInt8 := 87 :: sL_law_1720
def sL_law_1716 : List UInt8 := 182 :: 0 :: 231 :: sL_law_1719
def sL_law_1715 : List UInt8 := 44 :: sL_law_1716
def sL_law_1714 : List UInt8 := 87 :: sL_law_1715
def sL_law_1711 : List UInt8 := 182 :: 0 :: 227 :: sL_law_1714
def sL_law_1710 : List UInt8 := 43 :: sL_law_1711
def sL_law_1707 : List UInt8 := 167 :: 0 :: 120 :: sL_law_1710
def sL_law_1706 : List UInt8 := 87 :: sL_law_1707
def sL_law_1703 : List UInt8 := 182 :: 0 :: 226 :: sL_law_1706
def sL_law_1702 : List UInt8 := 46 :: sL_law_1703
def sL_law_1701 : List UInt8 := 96 :: sL_law_1702
def sL_law_1700 : List UInt8 := 5 :: sL_law_1701
def sL_law_1698 : List UInt8 := 21 :: 4 :: sL_law_1700
def sL_law_1697 : List UInt8 := 42 :: sL_law_1698
def sL_law_1696 : List UInt8 := 46 :: sL_law_1697
def sL_law_1695 : List UInt8 := 96 :: sL_law_1696
def sL_law_1694 : List UInt8 := 4 :: sL_law_1695
def sL_law_1692 : List UInt8 := 21 :: 4 :: sL_law_1694
def sL_law_1691 : List UInt8 := 42 :: sL_law_1692
def sL_law_1690 : List UInt8 := 44 :: sL_law_1691
def sL_law_1689 : List UInt8 := 87 :: sL_law_1690
def sL_law_1686 : List UInt8 := 182 :: 0 :: 223 :: sL_law_1689
def sL_law_1685 : List UInt8 := 46 :: sL_law_1686
def sL_law_1684 : List UInt8 := 96 :: sL_law_1685
def sL_law_1683 : List UInt8 := 5 :: sL_law_1684
def sL_law_1681 : List UInt8 := 21 :: 4 :: sL_law_1683
def sL_law_1680 : List UInt8 := 42 :: sL_law_1681
def sL_law_1679 : List UInt8 := 46 :: sL_law_1680
def sL_law_1678 : List UInt8 := 96 :: sL_law_1679
def sL_law_1677 : List UInt8 := 4 :: sL_law_1678
def sL_law_1675 : List UInt8 := 21 :: 4 :: sL_law_1677
def sL_law_1674 : List UInt8 := 42 :: sL_law_1675
def sL_law_1673 : List UInt8 := 43 :: sL_law_1674
def sL_law_1670 : List UInt8 := 167 :: 0 :: 157 :: sL_law_1673
def sL_law_1669 : List UInt8 := 87 :: sL_law_1670
def sL_law_1666 : List UInt8 := 182 :: 0 :: 222 :: sL_law_1669
def sL_law_1665 : List UInt8 := 46 :: sL_law_1666
def sL_law_1664 : List UInt8 := 96 :: sL_law_1665
def sL_law_1663 : List UInt8 := 5 :: sL_law_1664
def sL_law_1661 : List UInt8 := 21 :: 4 :: sL_law_1663
def sL_law_1660 : List UInt8 := 42 :: sL_law_1661
def sL_law_1659 : List UInt8 := 46 :: sL_law_1660
def sL_law_1658 : List UInt8 := 96 :: sL_law_1659
def sL_law_1657 : List UInt8 := 4 :: sL_law_1658
def sL_law_1655 : List UInt8 := 21 :: 4 :: sL_law_1657
def sL_law_1654 : List UInt8 := 42 :: sL_law_1655
def sL_law_1653 : List UInt8 := 44 :: sL_law_1654
def sL_law_1652 : List UInt8 := 87 :: sL_law_1653
def sL_law_1649 : List UInt8 := 182 :: 0 :: 218 :: sL_law_1652
def sL_law_1648 : List UInt8 := 46 :: sL_law_1649
def sL_law_1647 : List UInt8 := 96 :: sL_law_1648
def sL_law_1646 : List UInt8 := 5 :: sL_law_1647
def sL_law_1644 : List UInt8 := 21 :: 4 :: sL_law_1646
def sL_law_1643 : List UInt8 := 42 :: sL_law_1644
def sL_law_1642 : List UInt8 := 46 :: sL_law_1643
def sL_law_1641 : List UInt8 := 96 :: sL_law_1642
def sL_law_1640 : List UInt8 := 4 :: sL_law_1641
def sL_law_1638 : List UInt8 := 21 :: 4 :: sL_law_1640
def sL_law_1637 : List UInt8 := 42 :: sL_law_1638
def sL_law_1636 : List UInt8 := 43 :: sL_law_1637
def sL_law_1633 : List UInt8 := 167 :: 0 :: 194 :: sL_law_1636
def sL_law_1632 : List UInt8 := 87 :: sL_law_1633
def sL_law_1629 : List UInt8 := 182 :: 0 :: 217 :: sL_law_1632
def sL_law_1628 : List UInt8 := 46 :: sL_law_1629
def sL_law_1627 : List UInt8 := 96 :: sL_law_1628
def sL_law_1626 : List UInt8 := 5 :: sL_law_1627
def sL_law_1624 : List UInt8 := 21 :: 4 :: sL_law_1626
def sL_law_1623 : List UInt8 := 42 :: sL_law_1624
def sL_law_1622 : List UInt8 := 46 :: sL_law_1623
def sL_law_1621 : List UInt8 := 96 :: sL_law_1622
def sL_law_1620 : List UInt8 := 4 :: sL_law_1621
def sL_law_1618 : List UInt8 := 21 :: 4 :: sL_law_1620
def sL_law_1617 : List UInt8 := 42 :: sL_law_1618
def sL_law_1616 : List UInt8 := 44 :: sL_law_1617
def sL_law_1615 : List UInt8 := 87 :: sL_law_1616
def sL_law_1612 : List UInt8 := 182 :: 0 :: 214 :: sL_law_1615
def sL_law_1611 : List UInt8 := 46 :: sL_law_1612
def sL_law_1610 : List UInt8 := 96 :: sL_law_1611
def sL_law_1609 : List UInt8 := 5 :: sL_law_1610
def sL_law_1607 : List UInt8 := 21 :: 4 :: sL_law_1609
def sL_law_1606 : List UInt8 := 42 :: sL_law_1607
def sL_law_1605 : List UInt8 := 46 :: sL_law_1606
def sL_law_1604 : List UInt8 := 96 :: sL_law_1605
def sL_law_1603 : List UInt8 := 4 :: sL_law_1604
def sL_law_1601 : List UInt8 := 21 :: 4 :: sL_law_1603
def sL_law_1600 : List UInt8 := 42 :: sL_law_1601
def sL_law_1599 : List UInt8 := 43 :: sL_law_1600
def sL_law_1596 : List UInt8 := 167 :: 0 :: 231 :: sL_law_1599
def sL_law_1595 : List UInt8 := 87 :: sL_law_1596
def sL_law_1592 : List UInt8 := 182 :: 0 :: 213 :: sL_law_1595
def sL_law_1591 : List UInt8 := 46 :: sL_law_1592
def sL_law_1590 : List UInt8 := 96 :: sL_law_1591
def sL_law_1589 : List UInt8 := 5 :: sL_law_1590
def sL_law_1587 : List UInt8 := 21 :: 4 :: sL_law_1589
def sL_law_1586 : List UInt8 := 42 :: sL_law_1587
def sL_law_1585 : List UInt8 := 46 :: sL_law_1586
def sL_law_1584 : List UInt8 := 96 :: sL_law_1585
def sL_law_1583 : List UInt8 := 4 :: sL_law_1584
def sL_law_1581 : List UInt8 := 21 :: 4 :: sL_law_1583
def sL_law_1580 : List UInt8 := 42 :: sL_law_1581
def sL_law_1579 : List UInt8 := 44 :: sL_law_1580
def sL_law_1578 : List UInt8 := 87 :: sL_law_1579
def sL_law_1575 : List UInt8 := 182 :: 0 :: 210 :: sL_law_1578
def sL_law_1574 : List UInt8 := 46 :: sL_law_1575
def sL_law_1573 : List UInt8 := 96 :: sL_law_1574
def sL_law_1572 : List UInt8 := 5 :: sL_law_1573
def sL_law_1570 : List UInt8 := 21 :: 4 :: sL_law_1572
def sL_law_1569 : List UInt8 := 42 :: sL_law_1570
def sL_law_1568 : List UInt8 := 46 :: sL_law_1569
def sL_law_1567 : List UInt8 := 96 :: sL_law_1568
def sL_law_1566 : List UInt8 := 4 :: sL_law_1567
def sL_law_1564 : List UInt8 := 21 :: 4 :: sL_law_1566
def sL_law_1563 : List UInt8 := 42 :: sL_law_1564
def sL_law_1562 : List UInt8 := 43 :: sL_law_1563
def sL_law_1559 : List UInt8 := 167 :: 1 :: 12 :: sL_law_1562
def sL_law_1558 : List UInt8 := 87 :: sL_law_1559
def sL_law_1555 : List UInt8 := 182 :: 0 :: 209 :: sL_law_1558
def sL_law_1554 : List UInt8 := 46 :: sL_law_1555
def sL_law_1553 : List UInt8 := 96 :: sL_law_1554
def sL_law_1552 : List UInt8 := 4 :: sL_law_1553
def sL_law_1550 : List UInt8 := 21 :: 4 :: sL_law_1552
def sL_law_1549 : List UInt8 := 42 :: sL_law_1550
def sL_law_1548 : List UInt8 := 44 :: sL_law_1549
def sL_law_1547 : List UInt8 := 87 :: sL_law_1548
def sL_law_1544 : List UInt8 := 182 :: 0 :: 206 :: sL_law_1547
def sL_law_1543 : List UInt8 := 46 :: sL_law_1544
def sL_law_1542 : List UInt8 := 96 :: sL_law_1543
def sL_law_1541 : List UInt8 := 4 :: sL_law_1542
def sL_law_1539 : List UInt8 := 21 :: 4 :: sL_law_1541
def sL_law_1538 : List UInt8 := 42 :: sL_law_1539
def sL_law_1537 : List UInt8 := 43 :: sL_law_1538
def sL_law_1534 : List UInt8 := 167 :: 1 :: 37 :: sL_law_1537
def sL_law_1533 : List UInt8 := 87 :: sL_law_1534
def sL_law_1530 : List UInt8 := 182 :: 0 :: 205 :: sL_law_1533
def sL_law_1529 : List UInt8 := 46 :: sL_law_1530
def sL_law_1528 : List UInt8 := 96 :: sL_law_1529
def sL_law_1527 : List UInt8 := 4 :: sL_law_1528
def sL_law_1525 : List UInt8 := 21 :: 4 :: sL_law_1527
def sL_law_1524 : List UInt8 := 42 :: sL_law_1525
def sL_law_1523 : List UInt8 := 44 :: sL_law_1524
def sL_law_1522 : List UInt8 := 87 :: sL_law_1523
def sL_law_1519 : List UInt8 := 182 :: 0 :: 202 :: sL_law_1522
def sL_law_1518 : List UInt8 := 46 :: sL_law_1519
def sL_law_1517 : List UInt8 := 96 :: sL_law_1518
def sL_law_1516 : List UInt8 := 4 :: sL_law_1517
def sL_law_1514 : List UInt8 := 21 :: 4 :: sL_law_1516
def sL_law_1513 : List UInt8 := 42 :: sL_law_1514
def sL_law_1512 : List UInt8 := 43 :: sL_law_1513
def sL_law_1509 : List UInt8 := 167 :: 1 :: 62 :: sL_law_1512
def sL_law_1508 : List UInt8 := 87 :: sL_law_1509
def sL_law_1505 : List UInt8 := 182 :: 0 :: 201 :: sL_law_1508
def sL_law_1504 : List UInt8 := 3 :: sL_law_1505
def sL_law_1501 : List UInt8 := 167 :: 0 :: 4 :: sL_law_1504
def sL_law_1500 : List UInt8 := 4 :: sL_law_1501
def sL_law_1497 : List UInt8 := 153 :: 0 :: 7 :: sL_law_1500
def sL_law_1496 : List UInt8 := 46 :: sL_law_1497
def sL_law_1495 : List UInt8 := 96 :: sL_law_1496
def sL_law_1494 : List UInt8 := 7 :: sL_law_1495
def sL_law_1492 : List UInt8 := 21 :: 4 :: sL_law_1494
def sL_law_1491 : List UInt8 := 42 :: sL_law_1492
def sL_law_1490 : List UInt8 := 3 :: sL_law_1491
def sL_law_1487 : List UInt8 := 167 :: 0 :: 4 :: sL_law_1490
def sL_law_1486 : List UInt8 := 4 :: sL_law_1487
def sL_law_1483 : List UInt8 := 153 :: 0 :: 7 :: sL_law_1486
def sL_law_1482 : List UInt8 := 46 :: sL_law_1483
def sL_law_1481 : List UInt8 := 96 :: sL_law_1482
def sL_law_1480 : List UInt8 := 6 :: sL_law_1481
def sL_law_1478 : List UInt8 := 21 :: 4 :: sL_law_1480
def sL_law_1477 : List UInt8 := 42 :: sL_law_1478
def sL_law_1476 : List UInt8 := 3 :: sL_law_1477
def sL_law_1473 : List UInt8 := 167 :: 0 :: 4 :: sL_law_1476
def sL_law_1472 : List UInt8 := 4 :: sL_law_1473
def sL_law_1469 : List UInt8 := 153 :: 0 :: 7 :: sL_law_1472
def sL_law_1468 : List UInt8 := 46 :: sL_law_1469
def sL_law_1467 : List UInt8 := 96 :: sL_law_1468
def sL_law_1466 : List UInt8 := 5 :: sL_law_1467
def sL_law_1464 : List UInt8 := 21 :: 4 :: sL_law_1466
def sL_law_1463 : List UInt8 := 42 :: sL_law_1464
def sL_law_1462 : List UInt8 := 46 :: sL_law_1463
def sL_law_1461 : List UInt8 := 96 :: sL_law_1462
def sL_law_1460 : List UInt8 := 4 :: sL_law_1461
def sL_law_1458 : List UInt8 := 21 :: 4 :: sL_law_1460
def sL_law_1457 : List UInt8 := 42 :: sL_law_1458
def sL_law_1456 : List UInt8 := 44 :: sL_law_1457
def sL_law_1455 : List UInt8 := 87 :: sL_law_1456
def sL_law_1452 : List UInt8 := 182 :: 0 :: 197 :: sL_law_1455
def sL_law_1451 : List UInt8 := 3 :: sL_law_1452
def sL_law_1448 : List UInt8 := 167 :: 0 :: 4 :: sL_law_1451
def sL_law_1447 : List UInt8 := 4 :: sL_law_1448
def sL_law_1444 : List UInt8 := 153 :: 0 :: 7 :: sL_law_1447
def sL_law_1443 : List UInt8 := 46 :: sL_law_1444
def sL_law_1442 : List UInt8 := 96 :: sL_law_1443
def sL_law_1441 : List UInt8 := 7 :: sL_law_1442
def sL_law_1439 : List UInt8 := 21 :: 4 :: sL_law_1441
def sL_law_1438 : List UInt8 := 42 :: sL_law_1439
def sL_law_1437 : List UInt8 := 3 :: sL_law_1438
def sL_law_1434 : List UInt8 := 167 :: 0 :: 4 :: sL_law_1437
def sL_law_1433 : List UInt8 := 4 :: sL_law_1434
def sL_law_1430 : List UInt8 := 153 :: 0 :: 7 :: sL_law_1433
def sL_law_1429 : List UInt8 := 46 :: sL_law_1430
def sL_law_1428 : List UInt8 := 96 :: sL_law_1429
def sL_law_1427 : List UInt8 := 6 :: sL_law_1428
def sL_law_1425 : List UInt8 := 21 :: 4 :: sL_law_1427
def sL_law_1424 : List UInt8 := 42 :: sL_law_1425
def sL_law_1423 : List UInt8 := 3 :: sL_law_1424
def sL_law_1420 : List UInt8 := 167 :: 0 :: 4 :: sL_law_1423
def sL_law_1419 : List UInt8 := 4 :: sL_law_1420
def sL_law_1416 : List UInt8 := 153 :: 0 :: 7 :: sL_law_1419
def sL_law_1415 : List UInt8 := 46 :: sL_law_1416
def sL_law_1414 : List UInt8 := 96 :: sL_law_1415
def sL_law_1413 : List UInt8 := 5 :: sL_law_1414
def sL_law_1411 : List UInt8 := 21 :: 4 :: sL_law_1413
def sL_law_1410 : List UInt8 := 42 :: sL_law_1411
def sL_law_1409 : List UInt8 := 46 :: sL_law_1410
def sL_law_1408 : List UInt8 := 96 :: sL_law_1409
def sL_law_1407 : List UInt8 := 4 :: sL_law_1408
def sL_law_1405 : List UInt8 := 21 :: 4 :: sL_law_1407
def sL_law_1404 : List UInt8 := 42 :: sL_law_1405
def sL_law_1403 : List UInt8 := 43 :: sL_law_1404
def sL_law_1400 : List UInt8 := 167 :: 1 :: 171 :: sL_law_1403
def sL_law_1399 : List UInt8 := 88 :: sL_law_1400
def sL_law_1396 : List UInt8 := 182 :: 0 :: 196 :: sL_law_1399
def sL_law_1395 : List UInt8 := 3 :: sL_law_1396
def sL_law_1392 : List UInt8 := 167 :: 0 :: 4 :: sL_law_1395
def sL_law_1391 : List UInt8 := 4 :: sL_law_1392
def sL_law_1388 : List UInt8 := 153 :: 0 :: 7 :: sL_law_1391
def sL_law_1387 : List UInt8 := 46 :: sL_law_1388
def sL_law_1386 : List UInt8 := 96 :: sL_law_1387
def sL_law_1385 : List UInt8 := 4 :: sL_law_1386
def sL_law_1383 : List UInt8 := 21 :: 4 :: sL_law_1385
def sL_law_1382 : List UInt8 := 42 :: sL_law_1383
def sL_law_1381 : List UInt8 := 44 :: sL_law_1382
def sL_law_1380 : List UInt8 := 88 :: sL_law_1381
def sL_law_1377 : List UInt8 := 182 :: 0 :: 192 :: sL_law_1380
def sL_law_1376 : List UInt8 := 3 :: sL_law_1377
def sL_law_1373 : List UInt8 := 167 :: 0 :: 4 :: sL_law_1376
def sL_law_1372 : List UInt8 := 4 :: sL_law_1373
def sL_law_1369 : List UInt8 := 153 :: 0 :: 7 :: sL_law_1372
def sL_law_1368 : List UInt8 := 46 :: sL_law_1369
def sL_law_1367 : List UInt8 := 96 :: sL_law_1368
def sL_law_1366 : List UInt8 := 4 :: sL_law_1367
def sL_law_1364 : List UInt8 := 21 :: 4 :: sL_law_1366
def sL_law_1363 : List UInt8 := 42 :: sL_law_1364
def sL_law_1362 : List UInt8 := 43 :: sL_law_1363
def sL_law_1359 : List UInt8 := 167 :: 1 :: 212 :: sL_law_1362
def sL_law_1358 : List UInt8 := 88 :: sL_law_1359
def sL_law_1355 : List UInt8 := 182 :: 0 :: 191 :: sL_law_1358
def sL_law_1354 : List UInt8 := 3 :: sL_law_1355
def sL_law_1351 : List UInt8 := 167 :: 0 :: 4 :: sL_law_1354
def sL_law_1350 : List UInt8 := 4 :: sL_law_1351
def sL_law_1347 : List UInt8 := 153 :: 0 :: 7 :: sL_law_1350
def sL_law_1346 : List UInt8 := 46 :: sL_law_1347
def sL_law_1345 : List UInt8 := 96 :: sL_law_1346
def sL_law_1344 : List UInt8 := 5 :: sL_law_1345
def sL_law_1342 : List UInt8 := 21 :: 4 :: sL_law_1344
def sL_law_1341 : List UInt8 := 42 :: sL_law_1342
def sL_law_1340 : List UInt8 := 46 :: sL_law_1341
def sL_law_1339 : List UInt8 := 96 :: sL_law_1340
def sL_law_1338 : List UInt8 := 4 :: sL_law_1339
def sL_law_1336 : List UInt8 := 21 :: 4 :: sL_law_1338
def sL_law_1335 : List UInt8 := 42 :: sL_law_1336
def sL_law_1334 : List UInt8 := 44 :: sL_law_1335
def sL_law_1333 : List UInt8 := 88 :: sL_law_1334
def sL_law_1330 : List UInt8 := 182 :: 0 :: 188 :: sL_law_1333
def sL_law_1329 : List UInt8 := 3 :: sL_law_1330
def sL_law_1326 : List UInt8 := 167 :: 0 :: 4 :: sL_law_1329
def sL_law_1325 : List UInt8 := 4 :: sL_law_1326
def sL_law_1322 : List UInt8 := 153 :: 0 :: 7 :: sL_law_1325
def sL_law_1321 : List UInt8 := 46 :: sL_law_1322
def sL_law_1320 : List UInt8 := 96 :: sL_law_1321
def sL_law_1319 : List UInt8 := 5 :: sL_law_1320
def sL_law_1317 : List UInt8 := 21 :: 4 :: sL_law_1319
def sL_law_1316 : List UInt8 := 42 :: sL_law_1317
def sL_law_1315 : List UInt8 := 46 :: sL_law_1316
def sL_law_1314 : List UInt8 := 96 :: sL_law_1315
def sL_law_1313 : List UInt8 := 4 :: sL_law_1314
def sL_law_1311 : List UInt8 := 21 :: 4 :: sL_law_1313
def sL_law_1310 : List UInt8 := 42 :: sL_law_1311
def sL_law_1309 : List UInt8 := 43 :: sL_law_1310
def sL_law_1306 : List UInt8 := 167 :: 2 :: 9 :: sL_law_1309
def sL_law_1305 : List UInt8 := 87 :: sL_law_1306
def sL_law_1302 : List UInt8 := 182 :: 0 :: 187 :: sL_law_1305
def sL_law_1301 : List UInt8 := 44 :: sL_law_1302
def sL_law_1300 : List UInt8 := 87 :: sL_law_1301
def sL_law_1297 : List UInt8 := 182 :: 0 :: 184 :: sL_law_1300
def sL_law_1296 : List UInt8 := 43 :: sL_law_1297
def sL_law_1293 : List UInt8 := 167 :: 2 :: 22 :: sL_law_1296
def sL_law_1292 : List UInt8 := 87 :: sL_law_1293
def sL_law_1289 : List UInt8 := 182 :: 0 :: 183 :: sL_law_1292
def sL_law_1288 : List UInt8 := 44 :: sL_law_1289
def sL_law_1287 : List UInt8 := 87 :: sL_law_1288
def sL_law_1284 : List UInt8 := 182 :: 0 :: 180 :: sL_law_1287
def sL_law_1283 : List UInt8 := 43 :: sL_law_1284
def sL_law_1280 : List UInt8 := 167 :: 2 :: 35 :: sL_law_1283
def sL_law_1279 : List UInt8 := 87 :: sL_law_1280
def sL_law_1276 : List UInt8 := 182 :: 0 :: 179 :: sL_law_1279
def sL_law_1275 : List UInt8 := 44 :: sL_law_1276
def sL_law_1274 : List UInt8 := 87 :: sL_law_1275
def sL_law_1271 : List UInt8 := 182 :: 0 :: 176 :: sL_law_1274
def sL_law_1270 : List UInt8 := 43 :: sL_law_1271
def sL_law_1267 : List UInt8 := 167 :: 2 :: 48 :: sL_law_1270
def sL_law_1266 : List UInt8 := 87 :: sL_law_1267
def sL_law_1263 : List UInt8 := 182 :: 0 :: 175 :: sL_law_1266
def sL_law_1262 : List UInt8 := 44 :: sL_law_1263
def sL_law_1261 : List UInt8 := 87 :: sL_law_1262
def sL_law_1258 : List UInt8 := 182 :: 0 :: 172 :: sL_law_1261
def sL_law_1257 : List UInt8 := 43 :: sL_law_1258
def sL_law_1254 : List UInt8 := 167 :: 2 :: 61 :: sL_law_1257
def sL_law_1253 : List UInt8 := 87 :: sL_law_1254
def sL_law_1250 : List UInt8 := 182 :: 0 :: 171 :: sL_law_1253
def sL_law_1249 : List UInt8 := 46 :: sL_law_1250
def sL_law_1248 : List UInt8 := 96 :: sL_law_1249
def sL_law_1247 : List UInt8 := 4 :: sL_law_1248
def sL_law_1245 : List UInt8 := 21 :: 4 :: sL_law_1247
def sL_law_1244 : List UInt8 := 42 :: sL_law_1245
def sL_law_1243 : List UInt8 := 44 :: sL_law_1244
def sL_law_1242 : List UInt8 := 87 :: sL_law_1243
def sL_law_1239 : List UInt8 := 182 :: 0 :: 168 :: sL_law_1242
def sL_law_1238 : List UInt8 := 46 :: sL_law_1239
def sL_law_1237 : List UInt8 := 96 :: sL_law_1238
def sL_law_1236 : List UInt8 := 4 :: sL_law_1237
def sL_law_1234 : List UInt8 := 21 :: 4 :: sL_law_1236
def sL_law_1233 : List UInt8 := 42 :: sL_law_1234
def sL_law_1232 : List UInt8 := 43 :: sL_law_1233
def sL_law_1229 : List UInt8 := 167 :: 2 :: 86 :: sL_law_1232
def sL_law_1228 : List UInt8 := 87 :: sL_law_1229
def sL_law_1225 : List UInt8 := 182 :: 0 :: 167 :: sL_law_1228
def sL_law_1224 : List UInt8 := 44 :: sL_law_1225
def sL_law_1223 : List UInt8 := 87 :: sL_law_1224
def sL_law_1220 : List UInt8 := 182 :: 0 :: 164 :: sL_law_1223
def sL_law_1219 : List UInt8 := 43 :: sL_law_1220
def sL_law_1216 : List UInt8 := 167 :: 2 :: 99 :: sL_law_1219
def sL_law_1215 : List UInt8 := 87 :: sL_law_1216
def sL_law_1212 : List UInt8 := 182 :: 0 :: 163 :: sL_law_1215
def sL_law_1211 : List UInt8 := 44 :: sL_law_1212
def sL_law_1210 : List UInt8 := 87 :: sL_law_1211
def sL_law_1207 : List UInt8 := 182 :: 0 :: 160 :: sL_law_1210
def sL_law_1206 : List UInt8 := 43 :: sL_law_1207
def sL_law_1203 : List UInt8 := 167 :: 2 :: 112 :: sL_law_1206
def sL_law_1202 : List UInt8 := 87 :: sL_law_1203
def sL_law_1199 : List UInt8 := 182 :: 0 :: 159 :: sL_law_1202
def sL_law_1198 : List UInt8 := 46 :: sL_law_1199
def sL_law_1197 : List UInt8 := 96 :: sL_law_1198
def sL_law_1196 : List UInt8 := 4 :: sL_law_1197
def sL_law_1194 : List UInt8 := 21 :: 4 :: sL_law_1196
def sL_law_1193 : List UInt8 := 42 :: sL_law_1194
def sL_law_1192 : List UInt8 := 44 :: sL_law_1193
def sL_law_1191 : List UInt8 := 87 :: sL_law_1192
def sL_law_1188 : List UInt8 := 182 :: 0 :: 156 :: sL_law_1191
def sL_law_1187 : List UInt8 := 46 :: sL_law_1188
def sL_law_1186 : List UInt8 := 96 :: sL_law_1187
def sL_law_1185 : List UInt8 := 4 :: sL_law_1186
def sL_law_1183 : List UInt8 := 21 :: 4 :: sL_law_1185
def sL_law_1182 : List UInt8 := 42 :: sL_law_1183
def sL_law_1181 : List UInt8 := 43 :: sL_law_1182
def sL_law_1178 : List UInt8 := 167 :: 2 :: 137 :: sL_law_1181
def sL_law_1177 : List UInt8 := 87 :: sL_law_1178
def sL_law_1174 : List UInt8 := 182 :: 0 :: 155 :: sL_law_1177
def sL_law_1173 : List UInt8 := 44 :: sL_law_1174
def sL_law_1172 : List UInt8 := 87 :: sL_law_1173
def sL_law_1169 : List UInt8 := 182 :: 0 :: 152 :: sL_law_1172
def sL_law_1168 : List UInt8 := 43 :: sL_law_1169
def sL_law_1165 : List UInt8 := 167 :: 2 :: 150 :: sL_law_1168
def sL_law_1164 : List UInt8 := 88 :: sL_law_1165
def sL_law_1161 : List UInt8 := 182 :: 0 :: 151 :: sL_law_1164
def sL_law_1160 : List UInt8 := 3 :: sL_law_1161
def sL_law_1157 : List UInt8 := 167 :: 0 :: 4 :: sL_law_1160
def sL_law_1156 : List UInt8 := 4 :: sL_law_1157
def sL_law_1153 : List UInt8 := 153 :: 0 :: 7 :: sL_law_1156
def sL_law_1152 : List UInt8 := 46 :: sL_law_1153
def sL_law_1151 : List UInt8 := 96 :: sL_law_1152
def sL_law_1150 : List UInt8 := 5 :: sL_law_1151
def sL_law_1148 : List UInt8 := 21 :: 4 :: sL_law_1150
def sL_law_1147 : List UInt8 := 42 :: sL_law_1148
def sL_law_1146 : List UInt8 := 46 :: sL_law_1147
def sL_law_1145 : List UInt8 := 96 :: sL_law_1146
def sL_law_1144 : List UInt8 := 4 :: sL_law_1145
def sL_law_1142 : List UInt8 := 21 :: 4 :: sL_law_1144
def sL_law_1141 : List UInt8 := 42 :: sL_law_1142
def sL_law_1140 : List UInt8 := 44 :: sL_law_1141
def sL_law_1139 : List UInt8 := 88 :: sL_law_1140
def sL_law_1136 : List UInt8 := 182 :: 0 :: 148 :: sL_law_1139
def sL_law_1135 : List UInt8 := 3 :: sL_law_1136
def sL_law_1132 : List UInt8 := 167 :: 0 :: 4 :: sL_law_1135
def sL_law_1131 : List UInt8 := 4 :: sL_law_1132
def sL_law_1128 : List UInt8 := 153 :: 0 :: 7 :: sL_law_1131
def sL_law_1127 : List UInt8 := 46 :: sL_law_1128
def sL_law_1126 : List UInt8 := 96 :: sL_law_1127
def sL_law_1125 : List UInt8 := 5 :: sL_law_1126
def sL_law_1123 : List UInt8 := 21 :: 4 :: sL_law_1125
def sL_law_1122 : List UInt8 := 42 :: sL_law_1123
def sL_law_1121 : List UInt8 := 46 :: sL_law_1122
def sL_law_1120 : List UInt8 := 96 :: sL_law_1121
def sL_law_1119 : List UInt8 := 4 :: sL_law_1120
def sL_law_1117 : List UInt8 := 21 :: 4 :: sL_law_1119
def sL_law_1116 : List UInt8 := 42 :: sL_law_1117
def sL_law_1115 : List UInt8 := 43 :: sL_law_1116
def sL_law_1112 : List UInt8 := 167 :: 2 :: 203 :: sL_law_1115
def sL_law_1111 : List UInt8 := 87 :: sL_law_1112
def sL_law_1108 : List UInt8 := 182 :: 0 :: 147 :: sL_law_1111
def sL_law_1107 : List UInt8 := 46 :: sL_law_1108
def sL_law_1106 : List UInt8 := 96 :: sL_law_1107
def sL_law_1105 : List UInt8 := 4 :: sL_law_1106
def sL_law_1103 : List UInt8 := 21 :: 4 :: sL_law_1105
def sL_law_1102 : List UInt8 := 42 :: sL_law_1103
def sL_law_1101 : List UInt8 := 44 :: sL_law_1102
def sL_law_1100 : List UInt8 := 87 :: sL_law_1101
def sL_law_1097 : List UInt8 := 182 :: 0 :: 144 :: sL_law_1100
def sL_law_1096 : List UInt8 := 46 :: sL_law_1097
def sL_law_1095 : List UInt8 := 96 :: sL_law_1096
def sL_law_1094 : List UInt8 := 4 :: sL_law_1095
def sL_law_1092 : List UInt8 := 21 :: 4 :: sL_law_1094
def sL_law_1091 : List UInt8 := 42 :: sL_law_1092
def sL_law_1090 : List UInt8 := 43 :: sL_law_1091
def sL_law_1087 : List UInt8 := 167 :: 2 :: 228 :: sL_law_1090
def sL_law_1086 : List UInt8 := 88 :: sL_law_1087
def sL_law_1083 : List UInt8 := 182 :: 0 :: 143 :: sL_law_1086
def sL_law_1082 : List UInt8 := 3 :: sL_law_1083
def sL_law_1079 : List UInt8 := 167 :: 0 :: 4 :: sL_law_1082
def sL_law_1078 : List UInt8 := 4 :: sL_law_1079
def sL_law_1075 : List UInt8 := 153 :: 0 :: 7 :: sL_law_1078
def sL_law_1074 : List UInt8 := 46 :: sL_law_1075
def sL_law_1073 : List UInt8 := 96 :: sL_law_1074
def sL_law_1072 : List UInt8 := 5 :: sL_law_1073
def sL_law_1070 : List UInt8 := 21 :: 4 :: sL_law_1072
def sL_law_1069 : List UInt8 := 42 :: sL_law_1070
def sL_law_1068 : List UInt8 := 46 :: sL_law_1069
def sL_law_1067 : List UInt8 := 96 :: sL_law_1068
def sL_law_1066 : List UInt8 := 4 :: sL_law_1067
def sL_law_1064 : List UInt8 := 21 :: 4 :: sL_law_1066
def sL_law_1063 : List UInt8 := 42 :: sL_law_1064
def sL_law_1062 : List UInt8 := 44 :: sL_law_1063
def sL_law_1061 : List UInt8 := 88 :: sL_law_1062
def sL_law_1058 : List UInt8 := 182 :: 0 :: 140 :: sL_law_1061
def sL_law_1057 : List UInt8 := 3 :: sL_law_1058
def sL_law_1054 : List UInt8 := 167 :: 0 :: 4 :: sL_law_1057
def sL_law_1053 : List UInt8 := 4 :: sL_law_1054
def sL_law_1050 : List UInt8 := 153 :: 0 :: 7 :: sL_law_1053
def sL_law_1049 : List UInt8 := 46 :: sL_law_1050
def sL_law_1048 : List UInt8 := 96 :: sL_law_1049
def sL_law_1047 : List UInt8 := 5 :: sL_law_1048
def sL_law_1045 : List UInt8 := 21 :: 4 :: sL_law_1047
def sL_law_1044 : List UInt8 := 42 :: sL_law_1045
def sL_law_1043 : List UInt8 := 46 :: sL_law_1044
def sL_law_1042 : List UInt8 := 96 :: sL_law_1043
def sL_law_1041 : List UInt8 := 4 :: sL_law_1042
def sL_law_1039 : List UInt8 := 21 :: 4 :: sL_law_1041
def sL_law_1038 : List UInt8 := 42 :: sL_law_1039
def sL_law_1037 : List UInt8 := 43 :: sL_law_1038
def sL_law_1034 : List UInt8 := 167 :: 3 :: 25 :: sL_law_1037
def sL_law_1033 : List UInt8 := 87 :: sL_law_1034
def sL_law_1030 : List UInt8 := 182 :: 0 :: 139 :: sL_law_1033
def sL_law_1029 : List UInt8 := 46 :: sL_law_1030
def sL_law_1028 : List UInt8 := 96 :: sL_law_1029
def sL_law_1027 : List UInt8 := 4 :: sL_law_1028
def sL_law_1025 : List UInt8 := 21 :: 4 :: sL_law_1027
def sL_law_1024 : List UInt8 := 42 :: sL_law_1025
def sL_law_1023 : List UInt8 := 44 :: sL_law_1024
def sL_law_1022 : List UInt8 := 87 :: sL_law_1023
def sL_law_1019 : List UInt8 := 182 :: 0 :: 136 :: sL_law_1022
def sL_law_1018 : List UInt8 := 46 :: sL_law_1019
def sL_law_1017 : List UInt8 := 96 :: sL_law_1018
def sL_law_1016 : List UInt8 := 4 :: sL_law_1017
def sL_law_1014 : List UInt8 := 21 :: 4 :: sL_law_1016
def sL_law_1013 : List UInt8 := 42 :: sL_law_1014
def sL_law_1012 : List UInt8 := 43 :: sL_law_1013
def sL_law_1011 : List UInt8 := 172 :: sL_law_1012
def sL_law_1010 : List UInt8 := 3 :: sL_law_1011
def sL_law_1007 : List UInt8 := 159 :: 3 :: 52 :: sL_law_1010
def sL_law_1004 : List UInt8 := 182 :: 0 :: 135 :: sL_law_1007
def sL_law_1003 : List UInt8 := 46 :: sL_law_1004
def sL_law_1002 : List UInt8 := 96 :: sL_law_1003
def sL_law_1001 : List UInt8 := 4 :: sL_law_1002
def sL_law_999 : List UInt8 := 21 :: 4 :: sL_law_1001
def sL_law_998 : List UInt8 := 42 :: sL_law_999
def sL_law_997 : List UInt8 := 44 :: sL_law_998
def sL_law_994 : List UInt8 := 182 :: 0 :: 132 :: sL_law_997
def sL_law_993 : List UInt8 := 46 :: sL_law_994
def sL_law_992 : List UInt8 := 96 :: sL_law_993
def sL_law_991 : List UInt8 := 4 :: sL_law_992
def sL_law_989 : List UInt8 := 21 :: 4 :: sL_law_991
def sL_law_988 : List UInt8 := 42 :: sL_law_989
def sL_law_987 : List UInt8 := 43 :: sL_law_988
def sL_law_984 : List UInt8 := 167 :: 3 :: 75 :: sL_law_987
def sL_law_983 : List UInt8 := 87 :: sL_law_984
def sL_law_980 : List UInt8 := 182 :: 0 :: 131 :: sL_law_983
def sL_law_979 : List UInt8 := 44 :: sL_law_980
def sL_law_978 : List UInt8 := 87 :: sL_law_979
def sL_law_975 : List UInt8 := 182 :: 0 :: 128 :: sL_law_978
def sL_law_974 : List UInt8 := 43 :: sL_law_975
def sL_law_971 : List UInt8 := 167 :: 3 :: 88 :: sL_law_974
def sL_law_970 : List UInt8 := 87 :: sL_law_971
def sL_law_967 : List UInt8 := 182 :: 0 :: 127 :: sL_law_970
def sL_law_966 : List UInt8 := 46 :: sL_law_967
def sL_law_965 : List UInt8 := 96 :: sL_law_966
def sL_law_964 : List UInt8 := 4 :: sL_law_965
def sL_law_962 : List UInt8 := 21 :: 4 :: sL_law_964
def sL_law_961 : List UInt8 := 42 :: sL_law_962
def sL_law_960 : List UInt8 := 44 :: sL_law_961
def sL_law_959 : List UInt8 := 87 :: sL_law_960
def sL_law_956 : List UInt8 := 182 :: 0 :: 124 :: sL_law_959
def sL_law_955 : List UInt8 := 46 :: sL_law_956
def sL_law_954 : List UInt8 := 96 :: sL_law_955
def sL_law_953 : List UInt8 := 4 :: sL_law_954
def sL_law_951 : List UInt8 := 21 :: 4 :: sL_law_953
def sL_law_950 : List UInt8 := 42 :: sL_law_951
def sL_law_949 : List UInt8 := 43 :: sL_law_950
def sL_law_946 : List UInt8 := 167 :: 3 :: 113 :: sL_law_949
def sL_law_945 : List UInt8 := 87 :: sL_law_946
def sL_law_942 : List UInt8 := 182 :: 0 :: 123 :: sL_law_945
def sL_law_941 : List UInt8 := 46 :: sL_law_942
def sL_law_940 : List UInt8 := 96 :: sL_law_941
def sL_law_939 : List UInt8 := 4 :: sL_law_940
def sL_law_937 : List UInt8 := 21 :: 4 :: sL_law_939
def sL_law_936 : List UInt8 := 42 :: sL_law_937
def sL_law_935 : List UInt8 := 44 :: sL_law_936
def sL_law_934 : List UInt8 := 87 :: sL_law_935
def sL_law_931 : List UInt8 := 182 :: 0 :: 120 :: sL_law_934
def sL_law_930 : List UInt8 := 46 :: sL_law_931
def sL_law_929 : List UInt8 := 96 :: sL_law_930
def sL_law_928 : List UInt8 := 4 :: sL_law_929
def sL_law_926 : List UInt8 := 21 :: 4 :: sL_law_928
def sL_law_925 : List UInt8 := 42 :: sL_law_926
def sL_law_924 : List UInt8 := 43 :: sL_law_925
def sL_law_921 : List UInt8 := 167 :: 3 :: 138 :: sL_law_924
def sL_law_920 : List UInt8 := 87 :: sL_law_921
def sL_law_917 : List UInt8 := 182 :: 0 :: 119 :: sL_law_920
def sL_law_916 : List UInt8 := 44 :: sL_law_917
def sL_law_915 : List UInt8 := 87 :: sL_law_916
def sL_law_912 : List UInt8 := 182 :: 0 :: 116 :: sL_law_915
def sL_law_911 : List UInt8 := 43 :: sL_law_912
def sL_law_908 : List UInt8 := 167 :: 3 :: 151 :: sL_law_911
def sL_law_907 : List UInt8 := 87 :: sL_law_908
def sL_law_904 : List UInt8 := 182 :: 0 :: 115 :: sL_law_907
def sL_law_903 : List UInt8 := 44 :: sL_law_904
def sL_law_902 : List UInt8 := 87 :: sL_law_903
def sL_law_899 : List UInt8 := 182 :: 0 :: 112 :: sL_law_902
def sL_law_898 : List UInt8 := 43 :: sL_law_899
def sL_law_895 : List UInt8 := 167 :: 3 :: 164 :: sL_law_898
def sL_law_894 : List UInt8 := 87 :: sL_law_895
def sL_law_891 : List UInt8 := 182 :: 0 :: 111 :: sL_law_894
def sL_law_890 : List UInt8 := 46 :: sL_law_891
def sL_law_889 : List UInt8 := 96 :: sL_law_890
def sL_law_888 : List UInt8 := 4 :: sL_law_889
def sL_law_886 : List UInt8 := 21 :: 4 :: sL_law_888
def sL_law_885 : List UInt8 := 42 :: sL_law_886
def sL_law_884 : List UInt8 := 44 :: sL_law_885
def sL_law_883 : List UInt8 := 87 :: sL_law_884
def sL_law_880 : List UInt8 := 182 :: 0 :: 108 :: sL_law_883
def sL_law_879 : List UInt8 := 46 :: sL_law_880
def sL_law_878 : List UInt8 := 96 :: sL_law_879
def sL_law_877 : List UInt8 := 4 :: sL_law_878
def sL_law_875 : List UInt8 := 21 :: 4 :: sL_law_877
def sL_law_874 : List UInt8 := 42 :: sL_law_875
def sL_law_873 : List UInt8 := 43 :: sL_law_874
def sL_law_870 : List UInt8 := 167 :: 3 :: 189 :: sL_law_873
def sL_law_869 : List UInt8 := 87 :: sL_law_870
def sL_law_866 : List UInt8 := 182 :: 0 :: 107 :: sL_law_869
def sL_law_865 : List UInt8 := 46 :: sL_law_866
def sL_law_864 : List UInt8 := 96 :: sL_law_865
def sL_law_863 : List UInt8 := 4 :: sL_law_864
def sL_law_861 : List UInt8 := 21 :: 4 :: sL_law_863
def sL_law_860 : List UInt8 := 42 :: sL_law_861
def sL_law_859 : List UInt8 := 44 :: sL_law_860
def sL_law_858 : List UInt8 := 87 :: sL_law_859
def sL_law_855 : List UInt8 := 182 :: 0 :: 104 :: sL_law_858
def sL_law_854 : List UInt8 := 46 :: sL_law_855
def sL_law_853 : List UInt8 := 96 :: sL_law_854
def sL_law_852 : List UInt8 := 4 :: sL_law_853
def sL_law_850 : List UInt8 := 21 :: 4 :: sL_law_852
def sL_law_849 : List UInt8 := 42 :: sL_law_850
def sL_law_848 : List UInt8 := 43 :: sL_law_849
def sL_law_845 : List UInt8 := 167 :: 3 :: 214 :: sL_law_848
def sL_law_844 : List UInt8 := 88 :: sL_law_845
def sL_law_841 : List UInt8 := 182 :: 0 :: 103 :: sL_law_844
def sL_law_840 : List UInt8 := 3 :: sL_law_841
def sL_law_837 : List UInt8 := 167 :: 0 :: 4 :: sL_law_840
def sL_law_836 : List UInt8 := 4 :: sL_law_837
def sL_law_833 : List UInt8 := 153 :: 0 :: 7 :: sL_law_836
def sL_law_832 : List UInt8 := 46 :: sL_law_833
def sL_law_831 : List UInt8 := 96 :: sL_law_832
def sL_law_830 : List UInt8 := 6 :: sL_law_831
def sL_law_828 : List UInt8 := 21 :: 4 :: sL_law_830
def sL_law_827 : List UInt8 := 42 :: sL_law_828
def sL_law_826 : List UInt8 := 46 :: sL_law_827
def sL_law_825 : List UInt8 := 96 :: sL_law_826
def sL_law_824 : List UInt8 := 5 :: sL_law_825
def sL_law_822 : List UInt8 := 21 :: 4 :: sL_law_824
def sL_law_821 : List UInt8 := 42 :: sL_law_822
def sL_law_820 : List UInt8 := 46 :: sL_law_821
def sL_law_819 : List UInt8 := 96 :: sL_law_820
def sL_law_818 : List UInt8 := 4 :: sL_law_819
def sL_law_816 : List UInt8 := 21 :: 4 :: sL_law_818
def sL_law_815 : List UInt8 := 42 :: sL_law_816
def sL_law_814 : List UInt8 := 44 :: sL_law_815
def sL_law_813 : List UInt8 := 88 :: sL_law_814
def sL_law_810 : List UInt8 := 182 :: 0 :: 99 :: sL_law_813
def sL_law_809 : List UInt8 := 3 :: sL_law_810
def sL_law_806 : List UInt8 := 167 :: 0 :: 4 :: sL_law_809
def sL_law_805 : List UInt8 := 4 :: sL_law_806
def sL_law_802 : List UInt8 := 153 :: 0 :: 7 :: sL_law_805
def sL_law_801 : List UInt8 := 46 :: sL_law_802
def sL_law_800 : List UInt8 := 96 :: sL_law_801
def sL_law_799 : List UInt8 := 6 :: sL_law_800
def sL_law_797 : List UInt8 := 21 :: 4 :: sL_law_799
def sL_law_796 : List UInt8 := 42 :: sL_law_797
def sL_law_795 : List UInt8 := 46 :: sL_law_796
def sL_law_794 : List UInt8 := 96 :: sL_law_795
def sL_law_793 : List UInt8 := 5 :: sL_law_794
def sL_law_791 : List UInt8 := 21 :: 4 :: sL_law_793
def sL_law_790 : List UInt8 := 42 :: sL_law_791
def sL_law_789 : List UInt8 := 46 :: sL_law_790
def sL_law_788 : List UInt8 := 96 :: sL_law_789
def sL_law_787 : List UInt8 := 4 :: sL_law_788
def sL_law_785 : List UInt8 := 21 :: 4 :: sL_law_787
def sL_law_784 : List UInt8 := 42 :: sL_law_785
def sL_law_783 : List UInt8 := 43 :: sL_law_784
def sL_law_780 : List UInt8 := 167 :: 4 :: 23 :: sL_law_783
def sL_law_779 : List UInt8 := 87 :: sL_law_780
def sL_law_776 : List UInt8 := 182 :: 0 :: 98 :: sL_law_779
def sL_law_775 : List UInt8 := 46 :: sL_law_776
def sL_law_774 : List UInt8 := 96 :: sL_law_775
def sL_law_773 : List UInt8 := 5 :: sL_law_774
def sL_law_771 : List UInt8 := 21 :: 4 :: sL_law_773
def sL_law_770 : List UInt8 := 42 :: sL_law_771
def sL_law_769 : List UInt8 := 46 :: sL_law_770
def sL_law_768 : List UInt8 := 96 :: sL_law_769
def sL_law_767 : List UInt8 := 4 :: sL_law_768
def sL_law_765 : List UInt8 := 21 :: 4 :: sL_law_767
def sL_law_764 : List UInt8 := 42 :: sL_law_765
def sL_law_763 : List UInt8 := 44 :: sL_law_764
def sL_law_762 : List UInt8 := 87 :: sL_law_763
def sL_law_759 : List UInt8 := 182 :: 0 :: 95 :: sL_law_762
def sL_law_758 : List UInt8 := 46 :: sL_law_759
def sL_law_757 : List UInt8 := 96 :: sL_law_758
def sL_law_756 : List UInt8 := 5 :: sL_law_757
def sL_law_754 : List UInt8 := 21 :: 4 :: sL_law_756
def sL_law_753 : List UInt8 := 42 :: sL_law_754
def sL_law_752 : List UInt8 := 46 :: sL_law_753
def sL_law_751 : List UInt8 := 96 :: sL_law_752
def sL_law_750 : List UInt8 := 4 :: sL_law_751
def sL_law_748 : List UInt8 := 21 :: 4 :: sL_law_750
def sL_law_747 : List UInt8 := 42 :: sL_law_748
def sL_law_746 : List UInt8 := 43 :: sL_law_747
def sL_law_743 : List UInt8 := 167 :: 4 :: 60 :: sL_law_746
def sL_law_742 : List UInt8 := 87 :: sL_law_743
def sL_law_739 : List UInt8 := 182 :: 0 :: 94 :: sL_law_742
def sL_law_738 : List UInt8 := 46 :: sL_law_739
def sL_law_737 : List UInt8 := 96 :: sL_law_738
def sL_law_736 : List UInt8 := 4 :: sL_law_737
def sL_law_734 : List UInt8 := 21 :: 4 :: sL_law_736
def sL_law_733 : List UInt8 := 42 :: sL_law_734
def sL_law_732 : List UInt8 := 44 :: sL_law_733
def sL_law_731 : List UInt8 := 87 :: sL_law_732
def sL_law_728 : List UInt8 := 182 :: 0 :: 91 :: sL_law_731
def sL_law_727 : List UInt8 := 46 :: sL_law_728
def sL_law_726 : List UInt8 := 96 :: sL_law_727
def sL_law_725 : List UInt8 := 4 :: sL_law_726
def sL_law_723 : List UInt8 := 21 :: 4 :: sL_law_725
def sL_law_722 : List UInt8 := 42 :: sL_law_723
def sL_law_721 : List UInt8 := 43 :: sL_law_722
def sL_law_718 : List UInt8 := 167 :: 4 :: 85 :: sL_law_721
def sL_law_717 : List UInt8 := 87 :: sL_law_718
def sL_law_714 : List UInt8 := 182 :: 0 :: 90 :: sL_law_717
def sL_law_713 : List UInt8 := 44 :: sL_law_714
def sL_law_712 : List UInt8 := 87 :: sL_law_713
def sL_law_709 : List UInt8 := 182 :: 0 :: 87 :: sL_law_712
def sL_law_708 : List UInt8 := 43 :: sL_law_709
def sL_law_705 : List UInt8 := 167 :: 4 :: 98 :: sL_law_708
def sL_law_704 : List UInt8 := 87 :: sL_law_705
def sL_law_701 : List UInt8 := 182 :: 0 :: 86 :: sL_law_704
def sL_law_700 : List UInt8 := 44 :: sL_law_701
def sL_law_699 : List UInt8 := 87 :: sL_law_700
def sL_law_696 : List UInt8 := 182 :: 0 :: 83 :: sL_law_699
def sL_law_695 : List UInt8 := 43 :: sL_law_696
def sL_law_692 : List UInt8 := 167 :: 4 :: 111 :: sL_law_695
def sL_law_691 : List UInt8 := 87 :: sL_law_692
def sL_law_688 : List UInt8 := 182 :: 0 :: 82 :: sL_law_691
def sL_law_687 : List UInt8 := 46 :: sL_law_688
def sL_law_686 : List UInt8 := 96 :: sL_law_687
def sL_law_685 : List UInt8 := 4 :: sL_law_686
def sL_law_683 : List UInt8 := 21 :: 4 :: sL_law_685
def sL_law_682 : List UInt8 := 42 :: sL_law_683
def sL_law_681 : List UInt8 := 44 :: sL_law_682
def sL_law_680 : List UInt8 := 87 :: sL_law_681
def sL_law_677 : List UInt8 := 182 :: 0 :: 79 :: sL_law_680
def sL_law_676 : List UInt8 := 46 :: sL_law_677
def sL_law_675 : List UInt8 := 96 :: sL_law_676
def sL_law_674 : List UInt8 := 4 :: sL_law_675
def sL_law_672 : List UInt8 := 21 :: 4 :: sL_law_674
def sL_law_671 : List UInt8 := 42 :: sL_law_672
def sL_law_670 : List UInt8 := 43 :: sL_law_671
def sL_law_667 : List UInt8 := 167 :: 4 :: 136 :: sL_law_670
def sL_law_666 : List UInt8 := 87 :: sL_law_667
def sL_law_663 : List UInt8 := 182 :: 0 :: 78 :: sL_law_666
def sL_law_662 : List UInt8 := 44 :: sL_law_663
def sL_law_661 : List UInt8 := 87 :: sL_law_662
def sL_law_658 : List UInt8 := 182 :: 0 :: 75 :: sL_law_661
def sL_law_657 : List UInt8 := 43 :: sL_law_658
def sL_law_654 : List UInt8 := 167 :: 4 :: 149 :: sL_law_657
def sL_law_653 : List UInt8 := 87 :: sL_law_654
def sL_law_650 : List UInt8 := 182 :: 0 :: 74 :: sL_law_653
def sL_law_649 : List UInt8 := 44 :: sL_law_650
def sL_law_648 : List UInt8 := 87 :: sL_law_649
def sL_law_645 : List UInt8 := 182 :: 0 :: 71 :: sL_law_648
def sL_law_644 : List UInt8 := 43 :: sL_law_645
def sL_law_641 : List UInt8 := 167 :: 4 :: 162 :: sL_law_644
def sL_law_640 : List UInt8 := 87 :: sL_law_641
def sL_law_637 : List UInt8 := 182 :: 0 :: 70 :: sL_law_640
def sL_law_636 : List UInt8 := 46 :: sL_law_637
def sL_law_635 : List UInt8 := 96 :: sL_law_636
def sL_law_634 : List UInt8 := 4 :: sL_law_635
def sL_law_632 : List UInt8 := 21 :: 4 :: sL_law_634
def sL_law_631 : List UInt8 := 42 :: sL_law_632
def sL_law_630 : List UInt8 := 44 :: sL_law_631
def sL_law_629 : List UInt8 := 87 :: sL_law_630
def sL_law_626 : List UInt8 := 182 :: 0 :: 67 :: sL_law_629
def sL_law_625 : List UInt8 := 46 :: sL_law_626
def sL_law_624 : List UInt8 := 96 :: sL_law_625
def sL_law_623 : List UInt8 := 4 :: sL_law_624
def sL_law_621 : List UInt8 := 21 :: 4 :: sL_law_623
def sL_law_620 : List UInt8 := 42 :: sL_law_621
def sL_law_619 : List UInt8 := 43 :: sL_law_620
def sL_law_616 : List UInt8 := 167 :: 4 :: 187 :: sL_law_619
def sL_law_615 : List UInt8 := 87 :: sL_law_616
def sL_law_612 : List UInt8 := 182 :: 0 :: 66 :: sL_law_615
def sL_law_611 : List UInt8 := 44 :: sL_law_612
def sL_law_610 : List UInt8 := 87 :: sL_law_611
def sL_law_607 : List UInt8 := 182 :: 0 :: 63 :: sL_law_610
def sL_law_606 : List UInt8 := 43 :: sL_law_607
def sL_law_603 : List UInt8 := 167 :: 4 :: 200 :: sL_law_606
def sL_law_602 : List UInt8 := 87 :: sL_law_603
def sL_law_599 : List UInt8 := 182 :: 0 :: 62 :: sL_law_602
def sL_law_598 : List UInt8 := 46 :: sL_law_599
def sL_law_597 : List UInt8 := 96 :: sL_law_598
def sL_law_596 : List UInt8 := 4 :: sL_law_597
def sL_law_594 : List UInt8 := 21 :: 4 :: sL_law_596
def sL_law_593 : List UInt8 := 42 :: sL_law_594
def sL_law_592 : List UInt8 := 44 :: sL_law_593
def sL_law_591 : List UInt8 := 87 :: sL_law_592
def sL_law_588 : List UInt8 := 182 :: 0 :: 59 :: sL_law_591
def sL_law_587 : List UInt8 := 46 :: sL_law_588
def sL_law_586 : List UInt8 := 96 :: sL_law_587
def sL_law_585 : List UInt8 := 4 :: sL_law_586
def sL_law_583 : List UInt8 := 21 :: 4 :: sL_law_585
def sL_law_582 : List UInt8 := 42 :: sL_law_583
def sL_law_581 : List UInt8 := 43 :: sL_law_582
def sL_law_578 : List UInt8 := 167 :: 4 :: 225 :: sL_law_581
def sL_law_577 : List UInt8 := 88 :: sL_law_578
def sL_law_574 : List UInt8 := 182 :: 0 :: 58 :: sL_law_577
def sL_law_573 : List UInt8 := 3 :: sL_law_574
def sL_law_570 : List UInt8 := 167 :: 0 :: 4 :: sL_law_573
def sL_law_569 : List UInt8 := 4 :: sL_law_570
def sL_law_566 : List UInt8 := 153 :: 0 :: 7 :: sL_law_569
def sL_law_565 : List UInt8 := 46 :: sL_law_566
def sL_law_564 : List UInt8 := 96 :: sL_law_565
def sL_law_563 : List UInt8 := 5 :: sL_law_564
def sL_law_561 : List UInt8 := 21 :: 4 :: sL_law_563
def sL_law_560 : List UInt8 := 42 :: sL_law_561
def sL_law_559 : List UInt8 := 46 :: sL_law_560
def sL_law_558 : List UInt8 := 96 :: sL_law_559
def sL_law_557 : List UInt8 := 4 :: sL_law_558
def sL_law_555 : List UInt8 := 21 :: 4 :: sL_law_557
def sL_law_554 : List UInt8 := 42 :: sL_law_555
def sL_law_553 : List UInt8 := 44 :: sL_law_554
def sL_law_552 : List UInt8 := 88 :: sL_law_553
def sL_law_549 : List UInt8 := 182 :: 0 :: 54 :: sL_law_552
def sL_law_548 : List UInt8 := 3 :: sL_law_549
def sL_law_545 : List UInt8 := 167 :: 0 :: 4 :: sL_law_548
def sL_law_544 : List UInt8 := 4 :: sL_law_545
def sL_law_541 : List UInt8 := 153 :: 0 :: 7 :: sL_law_544
def sL_law_540 : List UInt8 := 46 :: sL_law_541
def sL_law_539 : List UInt8 := 96 :: sL_law_540
def sL_law_538 : List UInt8 := 5 :: sL_law_539
def sL_law_536 : List UInt8 := 21 :: 4 :: sL_law_538
def sL_law_535 : List UInt8 := 42 :: sL_law_536
def sL_law_534 : List UInt8 := 46 :: sL_law_535
def sL_law_533 : List UInt8 := 96 :: sL_law_534
def sL_law_532 : List UInt8 := 4 :: sL_law_533
def sL_law_530 : List UInt8 := 21 :: 4 :: sL_law_532
def sL_law_529 : List UInt8 := 42 :: sL_law_530
def sL_law_528 : List UInt8 := 43 :: sL_law_529
def sL_law_525 : List UInt8 := 167 :: 5 :: 22 :: sL_law_528
def sL_law_524 : List UInt8 := 87 :: sL_law_525
def sL_law_521 : List UInt8 := 182 :: 0 :: 53 :: sL_law_524
def sL_law_520 : List UInt8 := 44 :: sL_law_521
def sL_law_519 : List UInt8 := 87 :: sL_law_520
def sL_law_516 : List UInt8 := 182 :: 0 :: 50 :: sL_law_519
def sL_law_515 : List UInt8 := 43 :: sL_law_516
def sL_law_512 : List UInt8 := 167 :: 5 :: 35 :: sL_law_515
def sL_law_511 : List UInt8 := 87 :: sL_law_512
def sL_law_508 : List UInt8 := 182 :: 0 :: 49 :: sL_law_511
def sL_law_507 : List UInt8 := 46 :: sL_law_508
def sL_law_506 : List UInt8 := 96 :: sL_law_507
def sL_law_505 : List UInt8 := 5 :: sL_law_506
def sL_law_503 : List UInt8 := 21 :: 4 :: sL_law_505
def sL_law_502 : List UInt8 := 42 :: sL_law_503
def sL_law_501 : List UInt8 := 46 :: sL_law_502
def sL_law_500 : List UInt8 := 96 :: sL_law_501
def sL_law_499 : List UInt8 := 4 :: sL_law_500
def sL_law_497 : List UInt8 := 21 :: 4 :: sL_law_499
def sL_law_496 : List UInt8 := 42 :: sL_law_497
def sL_law_495 : List UInt8 := 44 :: sL_law_496
def sL_law_494 : List UInt8 := 87 :: sL_law_495
def sL_law_491 : List UInt8 := 182 :: 0 :: 46 :: sL_law_494
def sL_law_490 : List UInt8 := 46 :: sL_law_491
def sL_law_489 : List UInt8 := 96 :: sL_law_490
def sL_law_488 : List UInt8 := 5 :: sL_law_489
def sL_law_486 : List UInt8 := 21 :: 4 :: sL_law_488
def sL_law_485 : List UInt8 := 42 :: sL_law_486
def sL_law_484 : List UInt8 := 46 :: sL_law_485
def sL_law_483 : List UInt8 := 96 :: sL_law_484
def sL_law_482 : List UInt8 := 4 :: sL_law_483
def sL_law_480 : List UInt8 := 21 :: 4 :: sL_law_482
def sL_law_479 : List UInt8 := 42 :: sL_law_480
def sL_law_478 : List UInt8 := 43 :: sL_law_479
def sL_law_475 : List UInt8 := 167 :: 5 :: 72 :: sL_law_478
def sL_law_474 : List UInt8 := 87 :: sL_law_475
def sL_law_471 : List UInt8 := 182 :: 0 :: 45 :: sL_law_474
def sL_law_470 : List UInt8 := 46 :: sL_law_471
def sL_law_469 : List UInt8 := 96 :: sL_law_470
def sL_law_468 : List UInt8 := 5 :: sL_law_469
def sL_law_466 : List UInt8 := 21 :: 4 :: sL_law_468
def sL_law_465 : List UInt8 := 42 :: sL_law_466
def sL_law_464 : List UInt8 := 46 :: sL_law_465
def sL_law_463 : List UInt8 := 96 :: sL_law_464
def sL_law_462 : List UInt8 := 4 :: sL_law_463
def sL_law_460 : List UInt8 := 21 :: 4 :: sL_law_462
def sL_law_459 : List UInt8 := 42 :: sL_law_460
def sL_law_458 : List UInt8 := 44 :: sL_law_459
def sL_law_457 : List UInt8 := 87 :: sL_law_458
def sL_law_454 : List UInt8 := 182 :: 0 :: 42 :: sL_law_457
def sL_law_453 : List UInt8 := 46 :: sL_law_454
def sL_law_452 : List UInt8 := 96 :: sL_law_453
def sL_law_451 : List UInt8 := 5 :: sL_law_452
def sL_law_449 : List UInt8 := 21 :: 4 :: sL_law_451
def sL_law_448 : List UInt8 := 42 :: sL_law_449
def sL_law_447 : List UInt8 := 46 :: sL_law_448
def sL_law_446 : List UInt8 := 96 :: sL_law_447
def sL_law_445 : List UInt8 := 4 :: sL_law_446
def sL_law_443 : List UInt8 := 21 :: 4 :: sL_law_445
def sL_law_442 : List UInt8 := 42 :: sL_law_443
def sL_law_441 : List UInt8 := 43 :: sL_law_442
def sL_law_438 : List UInt8 := 167 :: 5 :: 109 :: sL_law_441
def sL_law_437 : List UInt8 := 87 :: sL_law_438
def sL_law_434 : List UInt8 := 182 :: 0 :: 41 :: sL_law_437
def sL_law_433 : List UInt8 := 46 :: sL_law_434
def sL_law_432 : List UInt8 := 96 :: sL_law_433
def sL_law_431 : List UInt8 := 5 :: sL_law_432
def sL_law_429 : List UInt8 := 21 :: 4 :: sL_law_431
def sL_law_428 : List UInt8 := 42 :: sL_law_429
def sL_law_427 : List UInt8 := 46 :: sL_law_428
def sL_law_426 : List UInt8 := 96 :: sL_law_427
def sL_law_425 : List UInt8 := 4 :: sL_law_426
def sL_law_423 : List UInt8 := 21 :: 4 :: sL_law_425
def sL_law_422 : List UInt8 := 42 :: sL_law_423
def sL_law_421 : List UInt8 := 44 :: sL_law_422
def sL_law_420 : List UInt8 := 87 :: sL_law_421
def sL_law_417 : List UInt8 := 182 :: 0 :: 37 :: sL_law_420
def sL_law_416 : List UInt8 := 46 :: sL_law_417
def sL_law_415 : List UInt8 := 96 :: sL_law_416
def sL_law_414 : List UInt8 := 5 :: sL_law_415
def sL_law_412 : List UInt8 := 21 :: 4 :: sL_law_414
def sL_law_411 : List UInt8 := 42 :: sL_law_412
def sL_law_410 : List UInt8 := 46 :: sL_law_411
def sL_law_409 : List UInt8 := 96 :: sL_law_410
def sL_law_408 : List UInt8 := 4 :: sL_law_409
def sL_law_406 : List UInt8 := 21 :: 4 :: sL_law_408
def sL_law_405 : List UInt8 := 42 :: sL_law_406
def sL_law_404 : List UInt8 := 43 :: sL_law_405
def sL_law_401 : List UInt8 := 167 :: 5 :: 146 :: sL_law_404
def sL_law_400 : List UInt8 := 87 :: sL_law_401
def sL_law_397 : List UInt8 := 182 :: 0 :: 36 :: sL_law_400
def sL_law_396 : List UInt8 := 44 :: sL_law_397
def sL_law_395 : List UInt8 := 87 :: sL_law_396
def sL_law_392 : List UInt8 := 182 :: 0 :: 33 :: sL_law_395
def sL_law_391 : List UInt8 := 43 :: sL_law_392
def sL_law_388 : List UInt8 := 167 :: 5 :: 159 :: sL_law_391
def sL_law_387 : List UInt8 := 87 :: sL_law_388
def sL_law_384 : List UInt8 := 182 :: 0 :: 32 :: sL_law_387
def sL_law_383 : List UInt8 := 44 :: sL_law_384
def sL_law_382 : List UInt8 := 87 :: sL_law_383
def sL_law_379 : List UInt8 := 182 :: 0 :: 28 :: sL_law_382
def sL_law_378 : List UInt8 := 43 :: sL_law_379
def sL_law_375 : List UInt8 := 167 :: 5 :: 172 :: sL_law_378
def sL_law_374 : List UInt8 := 87 :: sL_law_375
def sL_law_371 : List UInt8 := 182 :: 0 :: 27 :: sL_law_374
def sL_law_370 : List UInt8 := 46 :: sL_law_371
def sL_law_369 : List UInt8 := 96 :: sL_law_370
def sL_law_368 : List UInt8 := 4 :: sL_law_369
def sL_law_366 : List UInt8 := 21 :: 4 :: sL_law_368
def sL_law_365 : List UInt8 := 42 :: sL_law_366
def sL_law_364 : List UInt8 := 44 :: sL_law_365
def sL_law_363 : List UInt8 := 87 :: sL_law_364
def sL_law_360 : List UInt8 := 182 :: 0 :: 24 :: sL_law_363
def sL_law_359 : List UInt8 := 46 :: sL_law_360
def sL_law_358 : List UInt8 := 96 :: sL_law_359
def sL_law_357 : List UInt8 := 4 :: sL_law_358
def sL_law_355 : List UInt8 := 21 :: 4 :: sL_law_357
def sL_law_354 : List UInt8 := 42 :: sL_law_355
def sL_law_353 : List UInt8 := 43 :: sL_law_354
def sL_law_350 : List UInt8 := 167 :: 5 :: 197 :: sL_law_353
def sL_law_349 : List UInt8 := 87 :: sL_law_350
def sL_law_346 : List UInt8 := 182 :: 0 :: 23 :: sL_law_349
def sL_law_345 : List UInt8 := 46 :: sL_law_346
def sL_law_344 : List UInt8 := 96 :: sL_law_345
def sL_law_343 : List UInt8 := 8 :: sL_law_344
def sL_law_341 : List UInt8 := 21 :: 4 :: sL_law_343
def sL_law_340 : List UInt8 := 42 :: sL_law_341
def sL_law_339 : List UInt8 := 46 :: sL_law_340
def sL_law_338 : List UInt8 := 96 :: sL_law_339
def sL_law_337 : List UInt8 := 7 :: sL_law_338
def sL_law_335 : List UInt8 := 21 :: 4 :: sL_law_337
def sL_law_334 : List UInt8 := 42 :: sL_law_335
def sL_law_333 : List UInt8 := 46 :: sL_law_334
def sL_law_332 : List UInt8 := 96 :: sL_law_333
def sL_law_331 : List UInt8 := 6 :: sL_law_332
def sL_law_329 : List UInt8 := 21 :: 4 :: sL_law_331
def sL_law_328 : List UInt8 := 42 :: sL_law_329
def sL_law_327 : List UInt8 := 46 :: sL_law_328
def sL_law_326 : List UInt8 := 96 :: sL_law_327
def sL_law_325 : List UInt8 := 5 :: sL_law_326
def sL_law_323 : List UInt8 := 21 :: 4 :: sL_law_325
def sL_law_322 : List UInt8 := 42 :: sL_law_323
def sL_law_321 : List UInt8 := 46 :: sL_law_322
def sL_law_320 : List UInt8 := 96 :: sL_law_321
def sL_law_319 : List UInt8 := 4 :: sL_law_320
def sL_law_317 : List UInt8 := 21 :: 4 :: sL_law_319
def sL_law_316 : List UInt8 := 42 :: sL_law_317
def sL_law_315 : List UInt8 := 44 :: sL_law_316
def sL_law_314 : List UInt8 := 87 :: sL_law_315
def sL_law_311 : List UInt8 := 182 :: 0 :: 19 :: sL_law_314
def sL_law_310 : List UInt8 := 46 :: sL_law_311
def sL_law_309 : List UInt8 := 96 :: sL_law_310
def sL_law_308 : List UInt8 := 8 :: sL_law_309
def sL_law_306 : List UInt8 := 21 :: 4 :: sL_law_308
def sL_law_305 : List UInt8 := 42 :: sL_law_306
def sL_law_304 : List UInt8 := 46 :: sL_law_305
def sL_law_303 : List UInt8 := 96 :: sL_law_304
def sL_law_302 : List UInt8 := 7 :: sL_law_303
def sL_law_300 : List UInt8 := 21 :: 4 :: sL_law_302
def sL_law_299 : List UInt8 := 42 :: sL_law_300
def sL_law_298 : List UInt8 := 46 :: sL_law_299
def sL_law_297 : List UInt8 := 96 :: sL_law_298
def sL_law_296 : List UInt8 := 6 :: sL_law_297
def sL_law_294 : List UInt8 := 21 :: 4 :: sL_law_296
def sL_law_293 : List UInt8 := 42 :: sL_law_294
def sL_law_292 : List UInt8 := 46 :: sL_law_293
def sL_law_291 : List UInt8 := 96 :: sL_law_292
def sL_law_290 : List UInt8 := 5 :: sL_law_291
def sL_law_288 : List UInt8 := 21 :: 4 :: sL_law_290
def sL_law_287 : List UInt8 := 42 :: sL_law_288
def sL_law_286 : List UInt8 := 46 :: sL_law_287
def sL_law_285 : List UInt8 := 96 :: sL_law_286
def sL_law_284 : List UInt8 := 4 :: sL_law_285
def sL_law_282 : List UInt8 := 21 :: 4 :: sL_law_284
def sL_law_281 : List UInt8 := 42 :: sL_law_282
def sL_law_280 : List UInt8 := 43 :: sL_law_281
def sL_law_40 : List UInt8 := [170, 0, 0, 0, 0, 0, 6, 251, 0, 0, 0, 0, 0, 0, 0, 55, 0, 0, 0, 240, 0, 0, 1, 57, 0, 0, 1, 82, 0, 0, 1, 95, 0, 0, 1, 108, 0, 0, 1, 145, 0, 0, 1, 182, 0, 0, 1, 219, 0, 0, 1, 232, 0, 0, 2, 29, 0, 0, 2, 54, 0, 0, 2, 67, 0, 0, 2, 92, 0, 0, 2, 105, 0, 0, 2, 118, 0, 0, 2, 143, 0, 0, 2, 156, 0, 0, 2, 169, 0, 0, 2, 194, 0, 0, 2, 231, 0, 0, 3, 40, 0, 0, 3, 65, 0, 0, 3, 90, 0, 0, 3, 103, 0, 0, 3, 116, 0, 0, 3, 141, 0, 0, 3, 166, 0, 0, 3, 179, 0, 0, 3, 204, 0, 0, 3, 229, 0, 0, 4, 26, 0, 0, 4, 51, 0, 0, 4, 104, 0, 0, 4, 117, 0, 0, 4, 142, 0, 0, 4, 155, 0, 0, 4, 168, 0, 0, 4, 193, 0, 0, 4, 206, 0, 0, 4, 219, 0, 0, 4, 232, 0, 0, 4, 245, 0, 0, 5, 42, 0, 0, 5, 83, 0, 0, 5, 192, 0, 0, 5, 217, 0, 0, 5, 242, 0, 0, 6, 23, 0, 0, 6, 60, 0, 0, 6, 97, 0, 0, 6, 134, 0, 0, 6, 147, 0, 0, 6, 160, 0, 0, 6, 185, 0, 0, 6, 213, 0, 0, 6, 238] ++ sL_law_280
def sL_law_39 : List UInt8 := 126 :: sL_law_40
def sL_law_37 : List UInt8 := 16 :: 63 :: sL_law_39
def sL_law_36 : List UInt8 := 46 :: sL_law_37
def sL_law_34 : List UInt8 := 21 :: 4 :: sL_law_36
def sL_law_33 : List UInt8 := 42 :: sL_law_34
def sL_law_30 : List UInt8 := 163 :: 7 :: 11 :: sL_law_33
def sL_law_29 : List UInt8 := 100 :: sL_law_30
def sL_law_27 : List UInt8 := 16 :: 6 :: sL_law_29
def sL_law_26 : List UInt8 := 190 :: sL_law_27
def sL_law_25 : List UInt8 := 42 :: sL_law_26
def sL_law_23 : List UInt8 := 21 :: 4 :: sL_law_25
def sL_law_21 : List UInt8 := 54 :: 4 :: sL_law_23
def sL_law_20 : List UInt8 := 3 :: sL_law_21
def sL_law_19 : List UInt8 := 78 :: sL_law_20
def sL_law_17 : List UInt8 := 188 :: 11 :: sL_law_19
def sL_law_16 : List UInt8 := 4 :: sL_law_17
def sL_law_15 : List UInt8 := 77 :: sL_law_16
def sL_law_12 : List UInt8 := 183 :: 0 :: 18 :: sL_law_15
def sL_law_11 : List UInt8 := 89 :: sL_law_12
def sL_law_8 : List UInt8 := 187 :: 0 :: 16 :: sL_law_11
def sL_law_7 : List UInt8 := 76 :: sL_law_8
def sL_law_4 : List UInt8 := 183 :: 0 :: 15 :: sL_law_7
def sL_law_3 : List UInt8 := 89 :: sL_law_4
def sL_law_0 : List UInt8 := 187 :: 0 :: 8 :: sL_law_3
set_option maxRecDepth 100000 in
theorem hL_law_0 : cL_law.data.toList.drop 0 = sL_law_0 := by decide +kernel
theorem dL_law_0 : decode cL_law 0 = .ok (.new 8, 3) := dk187 hL_law_0 rfl
theorem hL_law_3 : cL_law.data.toList.drop 3 = sL_law_3 := dn3 hL_law_0
theorem dL_law_3 : decode cL_law 3 = .ok (.dup, 1) := dk89 hL_law_3
theorem hL_law_4 : cL_law.data.toList.drop 4 = sL_law_4 := dn1 hL_law_3
theorem dL_law_4 : decode cL_law 4 = .ok (.invokespecial 15, 3) := dk183 hL_law_4 rfl
theorem hL_law_7 : cL_law.data.toList.drop 7 = sL_law_7 := dn3 hL_law_4
theorem dL_law_7 : decode cL_law 7 = .ok (.astore_n 1, 1) := dk76 hL_law_7
theorem hL_law_8 : cL_law.data.toList.drop 8 = sL_law_8 := dn1 hL_law_7
theorem dL_law_8 : decode cL_law 8 = .ok (.new 16, 3) := dk187 hL_law_8 rfl
theorem hL_law_11 : cL_law.data.toList.drop 11 = sL_law_11 := dn3 hL_law_8
theorem dL_law_11 : decode cL_law 11 = .ok (.dup, 1) := dk89 hL_law_11
theorem hL_law_12 : cL_law.data.toList.drop 12 = sL_law_12 := dn1 hL_law_11
theorem dL_law_12 : decode cL_law 12 = .ok (.invokespecial 18, 3) := dk183 hL_law_12 rfl
theorem hL_law_15 : cL_law.data.toList.drop 15 = sL_law_15 := dn3 hL_law_12
theorem dL_law_15 : decode cL_law 15 = .ok (.astore_n 2, 1) := dk77 hL_law_15
theorem hL_law_16 : cL_law.data.toList.drop 16 = sL_law_16 := dn1 hL_law_15
theorem dL_law_16 : decode cL_law 16 = .ok (.iconst 1, 1) := dk4 hL_law_16
theorem hL_law_17 : cL_law.data.toList.drop 17 = sL_law_17 := dn1 hL_law_16
set_option maxRecDepth 100000 in
theorem dL_law_17 : decode cL_law 17 = .ok (.newarray .long, 2) := by decide +kernel
theorem hL_law_19 : cL_law.data.toList.drop 19 = sL_law_19 := dn2 hL_law_17
theorem dL_law_19 : decode cL_law 19 = .ok (.astore_n 3, 1) := dk78 hL_law_19
theorem hL_law_20 : cL_law.data.toList.drop 20 = sL_law_20 := dn1 hL_law_19
theorem dL_law_20 : decode cL_law 20 = .ok (.iconst 0, 1) := dk3 hL_law_20
theorem hL_law_21 : cL_law.data.toList.drop 21 = sL_law_21 := dn1 hL_law_20
theorem dL_law_21 : decode cL_law 21 = .ok (.istore 4, 2) := dk54 hL_law_21 rfl
theorem hL_law_23 : cL_law.data.toList.drop 23 = sL_law_23 := dn2 hL_law_21
theorem dL_law_23 : decode cL_law 23 = .ok (.iload 4, 2) := dk21 hL_law_23 rfl
theorem hL_law_25 : cL_law.data.toList.drop 25 = sL_law_25 := dn2 hL_law_23
theorem dL_law_25 : decode cL_law 25 = .ok (.aload_n 0, 1) := dk42 hL_law_25
theorem hL_law_26 : cL_law.data.toList.drop 26 = sL_law_26 := dn1 hL_law_25
theorem dL_law_26 : decode cL_law 26 = .ok (.arraylength, 1) := dk190 hL_law_26
theorem hL_law_27 : cL_law.data.toList.drop 27 = sL_law_27 := dn1 hL_law_26
theorem dL_law_27 : decode cL_law 27 = .ok (.bipush 6, 2) := dk16 hL_law_27 (by decide)
theorem hL_law_29 : cL_law.data.toList.drop 29 = sL_law_29 := dn2 hL_law_27
theorem dL_law_29 : decode cL_law 29 = .ok (.isub, 1) := dk100 hL_law_29
theorem hL_law_30 : cL_law.data.toList.drop 30 = sL_law_30 := dn1 hL_law_29
theorem dL_law_30 : decode cL_law 30 = .ok (.if_icmp .gt 1803, 3) := dk163 hL_law_30 (by decide)
theorem hL_law_33 : cL_law.data.toList.drop 33 = sL_law_33 := dn3 hL_law_30
theorem dL_law_33 : decode cL_law 33 = .ok (.aload_n 0, 1) := dk42 hL_law_33
theorem hL_law_34 : cL_law.data.toList.drop 34 = sL_law_34 := dn1 hL_law_33
theorem dL_law_34 : decode cL_law 34 = .ok (.iload 4, 2) := dk21 hL_law_34 rfl
theorem hL_law_36 : cL_law.data.toList.drop 36 = sL_law_36 := dn2 hL_law_34
theorem dL_law_36 : decode cL_law 36 = .ok (.iaload, 1) := dk46 hL_law_36
theorem hL_law_37 : cL_law.data.toList.drop 37 = sL_law_37 := dn1 hL_law_36
theorem dL_law_37 : decode cL_law 37 = .ok (.bipush 63, 2) := dk16 hL_law_37 (by decide)
theorem hL_law_39 : cL_law.data.toList.drop 39 = sL_law_39 := dn2 hL_law_37
theorem dL_law_39 : decode cL_law 39 = .ok (.iand, 1) := dk126 hL_law_39
theorem hL_law_40 : cL_law.data.toList.drop 40 = sL_law_40 := dn1 hL_law_39
set_option maxRecDepth 100000 in
theorem dL_law_40 : decode cL_law 40 = .ok (.tableswitch 1787 0 55 #[240, 313, 338, 351, 364, 401, 438, 475, 488, 541, 566, 579, 604, 617, 630, 655, 668, 681, 706, 743, 808, 833, 858, 871, 884, 909, 934, 947, 972, 997, 1050, 1075, 1128, 1141, 1166, 1179, 1192, 1217, 1230, 1243, 1256, 1269, 1322, 1363, 1472, 1497, 1522, 1559, 1596, 1633, 1670, 1683, 1696, 1721, 1749, 1774], 240) := by decide +kernel
theorem hL_law_280 : cL_law.data.toList.drop 280 = sL_law_280 := dnl (n := 240) hL_law_40 rfl
theorem dL_law_280 : decode cL_law 280 = .ok (.aload_n 1, 1) := dk43 hL_law_280
theorem hL_law_281 : cL_law.data.toList.drop 281 = sL_law_281 := dn1 hL_law_280
theorem dL_law_281 : decode cL_law 281 = .ok (.aload_n 0, 1) := dk42 hL_law_281
theorem hL_law_282 : cL_law.data.toList.drop 282 = sL_law_282 := dn1 hL_law_281
theorem dL_law_282 : decode cL_law 282 = .ok (.iload 4, 2) := dk21 hL_law_282 rfl
theorem hL_law_284 : cL_law.data.toList.drop 284 = sL_law_284 := dn2 hL_law_282
theorem dL_law_284 : decode cL_law 284 = .ok (.iconst 1, 1) := dk4 hL_law_284
theorem hL_law_285 : cL_law.data.toList.drop 285 = sL_law_285 := dn1 hL_law_284
theorem dL_law_285 : decode cL_law 285 = .ok (.iadd, 1) := dk96 hL_law_285
theorem hL_law_286 : cL_law.data.toList.drop 286 = sL_law_286 := dn1 hL_law_285
theorem dL_law_286 : decode cL_law 286 = .ok (.iaload, 1) := dk46 hL_law_286
theorem hL_law_287 : cL_law.data.toList.drop 287 = sL_law_287 := dn1 hL_law_286
theorem dL_law_287 : decode cL_law 287 = .ok (.aload_n 0, 1) := dk42 hL_law_287
theorem hL_law_288 : cL_law.data.toList.drop 288 = sL_law_288 := dn1 hL_law_287
theorem dL_law_288 : decode cL_law 288 = .ok (.iload 4, 2) := dk21 hL_law_288 rfl
theorem hL_law_290 : cL_law.data.toList.drop 290 = sL_law_290 := dn2 hL_law_288
theorem dL_law_290 : decode cL_law 290 = .ok (.iconst 2, 1) := dk5 hL_law_290
theorem hL_law_291 : cL_law.data.toList.drop 291 = sL_law_291 := dn1 hL_law_290
theorem dL_law_291 : decode cL_law 291 = .ok (.iadd, 1) := dk96 hL_law_291
theorem hL_law_292 : cL_law.data.toList.drop 292 = sL_law_292 := dn1 hL_law_291
theorem dL_law_292 : decode cL_law 292 = .ok (.iaload, 1) := dk46 hL_law_292
theorem hL_law_293 : cL_law.data.toList.drop 293 = sL_law_293 := dn1 hL_law_292
theorem dL_law_293 : decode cL_law 293 = .ok (.aload_n 0, 1) := dk42 hL_law_293
theorem hL_law_294 : cL_law.data.toList.drop 294 = sL_law_294 := dn1 hL_law_293
theorem dL_law_294 : decode cL_law 294 = .ok (.iload 4, 2) := dk21 hL_law_294 rfl
theorem hL_law_296 : cL_law.data.toList.drop 296 = sL_law_296 := dn2 hL_law_294
theorem dL_law_296 : decode cL_law 296 = .ok (.iconst 3, 1) := dk6 hL_law_296
theorem hL_law_297 : cL_law.data.toList.drop 297 = sL_law_297 := dn1 hL_law_296
theorem dL_law_297 : decode cL_law 297 = .ok (.iadd, 1) := dk96 hL_law_297
theorem hL_law_298 : cL_law.data.toList.drop 298 = sL_law_298 := dn1 hL_law_297
theorem dL_law_298 : decode cL_law 298 = .ok (.iaload, 1) := dk46 hL_law_298
theorem hL_law_299 : cL_law.data.toList.drop 299 = sL_law_299 := dn1 hL_law_298
theorem dL_law_299 : decode cL_law 299 = .ok (.aload_n 0, 1) := dk42 hL_law_299
theorem hL_law_300 : cL_law.data.toList.drop 300 = sL_law_300 := dn1 hL_law_299
theorem dL_law_300 : decode cL_law 300 = .ok (.iload 4, 2) := dk21 hL_law_300 rfl
theorem hL_law_302 : cL_law.data.toList.drop 302 = sL_law_302 := dn2 hL_law_300
theorem dL_law_302 : decode cL_law 302 = .ok (.iconst 4, 1) := dk7 hL_law_302
theorem hL_law_303 : cL_law.data.toList.drop 303 = sL_law_303 := dn1 hL_law_302
theorem dL_law_303 : decode cL_law 303 = .ok (.iadd, 1) := dk96 hL_law_303
theorem hL_law_304 : cL_law.data.toList.drop 304 = sL_law_304 := dn1 hL_law_303
theorem dL_law_304 : decode cL_law 304 = .ok (.iaload, 1) := dk46 hL_law_304
theorem hL_law_305 : cL_law.data.toList.drop 305 = sL_law_305 := dn1 hL_law_304
theorem dL_law_305 : decode cL_law 305 = .ok (.aload_n 0, 1) := dk42 hL_law_305
theorem hL_law_306 : cL_law.data.toList.drop 306 = sL_law_306 := dn1 hL_law_305
theorem dL_law_306 : decode cL_law 306 = .ok (.iload 4, 2) := dk21 hL_law_306 rfl
theorem hL_law_308 : cL_law.data.toList.drop 308 = sL_law_308 := dn2 hL_law_306
theorem dL_law_308 : decode cL_law 308 = .ok (.iconst 5, 1) := dk8 hL_law_308
theorem hL_law_309 : cL_law.data.toList.drop 309 = sL_law_309 := dn1 hL_law_308
theorem dL_law_309 : decode cL_law 309 = .ok (.iadd, 1) := dk96 hL_law_309
theorem hL_law_310 : cL_law.data.toList.drop 310 = sL_law_310 := dn1 hL_law_309
theorem dL_law_310 : decode cL_law 310 = .ok (.iaload, 1) := dk46 hL_law_310
theorem hL_law_311 : cL_law.data.toList.drop 311 = sL_law_311 := dn1 hL_law_310
theorem dL_law_311 : decode cL_law 311 = .ok (.invokevirtual 19, 3) := dk182 hL_law_311 rfl
theorem hL_law_314 : cL_law.data.toList.drop 314 = sL_law_314 := dn3 hL_law_311
theorem dL_law_314 : decode cL_law 314 = .ok (.pop, 1) := dk87 hL_law_314
theorem hL_law_315 : cL_law.data.toList.drop 315 = sL_law_315 := dn1 hL_law_314
theorem dL_law_315 : decode cL_law 315 = .ok (.aload_n 2, 1) := dk44 hL_law_315
theorem hL_law_316 : cL_law.data.toList.drop 316 = sL_law_316 := dn1 hL_law_315
theorem dL_law_316 : decode cL_law 316 = .ok (.aload_n 0, 1) := dk42 hL_law_316
theorem hL_law_317 : cL_law.data.toList.drop 317 = sL_law_317 := dn1 hL_law_316
theorem dL_law_317 : decode cL_law 317 = .ok (.iload 4, 2) := dk21 hL_law_317 rfl
theorem hL_law_319 : cL_law.data.toList.drop 319 = sL_law_319 := dn2 hL_law_317
theorem dL_law_319 : decode cL_law 319 = .ok (.iconst 1, 1) := dk4 hL_law_319
theorem hL_law_320 : cL_law.data.toList.drop 320 = sL_law_320 := dn1 hL_law_319
theorem dL_law_320 : decode cL_law 320 = .ok (.iadd, 1) := dk96 hL_law_320
theorem hL_law_321 : cL_law.data.toList.drop 321 = sL_law_321 := dn1 hL_law_320
theorem dL_law_321 : decode cL_law 321 = .ok (.iaload, 1) := dk46 hL_law_321
theorem hL_law_322 : cL_law.data.toList.drop 322 = sL_law_322 := dn1 hL_law_321
theorem dL_law_322 : decode cL_law 322 = .ok (.aload_n 0, 1) := dk42 hL_law_322
theorem hL_law_323 : cL_law.data.toList.drop 323 = sL_law_323 := dn1 hL_law_322
theorem dL_law_323 : decode cL_law 323 = .ok (.iload 4, 2) := dk21 hL_law_323 rfl
theorem hL_law_325 : cL_law.data.toList.drop 325 = sL_law_325 := dn2 hL_law_323
theorem dL_law_325 : decode cL_law 325 = .ok (.iconst 2, 1) := dk5 hL_law_325
theorem hL_law_326 : cL_law.data.toList.drop 326 = sL_law_326 := dn1 hL_law_325
theorem dL_law_326 : decode cL_law 326 = .ok (.iadd, 1) := dk96 hL_law_326
theorem hL_law_327 : cL_law.data.toList.drop 327 = sL_law_327 := dn1 hL_law_326
theorem dL_law_327 : decode cL_law 327 = .ok (.iaload, 1) := dk46 hL_law_327
theorem hL_law_328 : cL_law.data.toList.drop 328 = sL_law_328 := dn1 hL_law_327
theorem dL_law_328 : decode cL_law 328 = .ok (.aload_n 0, 1) := dk42 hL_law_328
theorem hL_law_329 : cL_law.data.toList.drop 329 = sL_law_329 := dn1 hL_law_328
theorem dL_law_329 : decode cL_law 329 = .ok (.iload 4, 2) := dk21 hL_law_329 rfl
theorem hL_law_331 : cL_law.data.toList.drop 331 = sL_law_331 := dn2 hL_law_329
theorem dL_law_331 : decode cL_law 331 = .ok (.iconst 3, 1) := dk6 hL_law_331
theorem hL_law_332 : cL_law.data.toList.drop 332 = sL_law_332 := dn1 hL_law_331
theorem dL_law_332 : decode cL_law 332 = .ok (.iadd, 1) := dk96 hL_law_332
theorem hL_law_333 : cL_law.data.toList.drop 333 = sL_law_333 := dn1 hL_law_332
theorem dL_law_333 : decode cL_law 333 = .ok (.iaload, 1) := dk46 hL_law_333
theorem hL_law_334 : cL_law.data.toList.drop 334 = sL_law_334 := dn1 hL_law_333
theorem dL_law_334 : decode cL_law 334 = .ok (.aload_n 0, 1) := dk42 hL_law_334
theorem hL_law_335 : cL_law.data.toList.drop 335 = sL_law_335 := dn1 hL_law_334
theorem dL_law_335 : decode cL_law 335 = .ok (.iload 4, 2) := dk21 hL_law_335 rfl
theorem hL_law_337 : cL_law.data.toList.drop 337 = sL_law_337 := dn2 hL_law_335
theorem dL_law_337 : decode cL_law 337 = .ok (.iconst 4, 1) := dk7 hL_law_337
theorem hL_law_338 : cL_law.data.toList.drop 338 = sL_law_338 := dn1 hL_law_337
theorem dL_law_338 : decode cL_law 338 = .ok (.iadd, 1) := dk96 hL_law_338
theorem hL_law_339 : cL_law.data.toList.drop 339 = sL_law_339 := dn1 hL_law_338
theorem dL_law_339 : decode cL_law 339 = .ok (.iaload, 1) := dk46 hL_law_339
theorem hL_law_340 : cL_law.data.toList.drop 340 = sL_law_340 := dn1 hL_law_339
theorem dL_law_340 : decode cL_law 340 = .ok (.aload_n 0, 1) := dk42 hL_law_340
theorem hL_law_341 : cL_law.data.toList.drop 341 = sL_law_341 := dn1 hL_law_340
theorem dL_law_341 : decode cL_law 341 = .ok (.iload 4, 2) := dk21 hL_law_341 rfl
theorem hL_law_343 : cL_law.data.toList.drop 343 = sL_law_343 := dn2 hL_law_341
theorem dL_law_343 : decode cL_law 343 = .ok (.iconst 5, 1) := dk8 hL_law_343
theorem hL_law_344 : cL_law.data.toList.drop 344 = sL_law_344 := dn1 hL_law_343
theorem dL_law_344 : decode cL_law 344 = .ok (.iadd, 1) := dk96 hL_law_344
theorem hL_law_345 : cL_law.data.toList.drop 345 = sL_law_345 := dn1 hL_law_344
theorem dL_law_345 : decode cL_law 345 = .ok (.iaload, 1) := dk46 hL_law_345
theorem hL_law_346 : cL_law.data.toList.drop 346 = sL_law_346 := dn1 hL_law_345
theorem dL_law_346 : decode cL_law 346 = .ok (.invokevirtual 23, 3) := dk182 hL_law_346 rfl
theorem hL_law_349 : cL_law.data.toList.drop 349 = sL_law_349 := dn3 hL_law_346
theorem dL_law_349 : decode cL_law 349 = .ok (.pop, 1) := dk87 hL_law_349
theorem hL_law_350 : cL_law.data.toList.drop 350 = sL_law_350 := dn1 hL_law_349
theorem dL_law_350 : decode cL_law 350 = .ok (.goto 1477, 3) := dk167 hL_law_350 (by decide)
theorem hL_law_353 : cL_law.data.toList.drop 353 = sL_law_353 := dn3 hL_law_350
theorem dL_law_353 : decode cL_law 353 = .ok (.aload_n 1, 1) := dk43 hL_law_353
theorem hL_law_354 : cL_law.data.toList.drop 354 = sL_law_354 := dn1 hL_law_353
theorem dL_law_354 : decode cL_law 354 = .ok (.aload_n 0, 1) := dk42 hL_law_354
theorem hL_law_355 : cL_law.data.toList.drop 355 = sL_law_355 := dn1 hL_law_354
theorem dL_law_355 : decode cL_law 355 = .ok (.iload 4, 2) := dk21 hL_law_355 rfl
theorem hL_law_357 : cL_law.data.toList.drop 357 = sL_law_357 := dn2 hL_law_355
theorem dL_law_357 : decode cL_law 357 = .ok (.iconst 1, 1) := dk4 hL_law_357
theorem hL_law_358 : cL_law.data.toList.drop 358 = sL_law_358 := dn1 hL_law_357
theorem dL_law_358 : decode cL_law 358 = .ok (.iadd, 1) := dk96 hL_law_358
theorem hL_law_359 : cL_law.data.toList.drop 359 = sL_law_359 := dn1 hL_law_358
theorem dL_law_359 : decode cL_law 359 = .ok (.iaload, 1) := dk46 hL_law_359
theorem hL_law_360 : cL_law.data.toList.drop 360 = sL_law_360 := dn1 hL_law_359
theorem dL_law_360 : decode cL_law 360 = .ok (.invokevirtual 24, 3) := dk182 hL_law_360 rfl
theorem hL_law_363 : cL_law.data.toList.drop 363 = sL_law_363 := dn3 hL_law_360
theorem dL_law_363 : decode cL_law 363 = .ok (.pop, 1) := dk87 hL_law_363
theorem hL_law_364 : cL_law.data.toList.drop 364 = sL_law_364 := dn1 hL_law_363
theorem dL_law_364 : decode cL_law 364 = .ok (.aload_n 2, 1) := dk44 hL_law_364
theorem hL_law_365 : cL_law.data.toList.drop 365 = sL_law_365 := dn1 hL_law_364
theorem dL_law_365 : decode cL_law 365 = .ok (.aload_n 0, 1) := dk42 hL_law_365
theorem hL_law_366 : cL_law.data.toList.drop 366 = sL_law_366 := dn1 hL_law_365
theorem dL_law_366 : decode cL_law 366 = .ok (.iload 4, 2) := dk21 hL_law_366 rfl
theorem hL_law_368 : cL_law.data.toList.drop 368 = sL_law_368 := dn2 hL_law_366
theorem dL_law_368 : decode cL_law 368 = .ok (.iconst 1, 1) := dk4 hL_law_368
theorem hL_law_369 : cL_law.data.toList.drop 369 = sL_law_369 := dn1 hL_law_368
theorem dL_law_369 : decode cL_law 369 = .ok (.iadd, 1) := dk96 hL_law_369
theorem hL_law_370 : cL_law.data.toList.drop 370 = sL_law_370 := dn1 hL_law_369
theorem dL_law_370 : decode cL_law 370 = .ok (.iaload, 1) := dk46 hL_law_370
theorem hL_law_371 : cL_law.data.toList.drop 371 = sL_law_371 := dn1 hL_law_370
theorem dL_law_371 : decode cL_law 371 = .ok (.invokevirtual 27, 3) := dk182 hL_law_371 rfl
theorem hL_law_374 : cL_law.data.toList.drop 374 = sL_law_374 := dn3 hL_law_371
theorem dL_law_374 : decode cL_law 374 = .ok (.pop, 1) := dk87 hL_law_374
theorem hL_law_375 : cL_law.data.toList.drop 375 = sL_law_375 := dn1 hL_law_374
theorem dL_law_375 : decode cL_law 375 = .ok (.goto 1452, 3) := dk167 hL_law_375 (by decide)
theorem hL_law_378 : cL_law.data.toList.drop 378 = sL_law_378 := dn3 hL_law_375
theorem dL_law_378 : decode cL_law 378 = .ok (.aload_n 1, 1) := dk43 hL_law_378
theorem hL_law_379 : cL_law.data.toList.drop 379 = sL_law_379 := dn1 hL_law_378
theorem dL_law_379 : decode cL_law 379 = .ok (.invokevirtual 28, 3) := dk182 hL_law_379 rfl
theorem hL_law_382 : cL_law.data.toList.drop 382 = sL_law_382 := dn3 hL_law_379
theorem dL_law_382 : decode cL_law 382 = .ok (.pop, 1) := dk87 hL_law_382
theorem hL_law_383 : cL_law.data.toList.drop 383 = sL_law_383 := dn1 hL_law_382
theorem dL_law_383 : decode cL_law 383 = .ok (.aload_n 2, 1) := dk44 hL_law_383
theorem hL_law_384 : cL_law.data.toList.drop 384 = sL_law_384 := dn1 hL_law_383
theorem dL_law_384 : decode cL_law 384 = .ok (.invokevirtual 32, 3) := dk182 hL_law_384 rfl
theorem hL_law_387 : cL_law.data.toList.drop 387 = sL_law_387 := dn3 hL_law_384
theorem dL_law_387 : decode cL_law 387 = .ok (.pop, 1) := dk87 hL_law_387
theorem hL_law_388 : cL_law.data.toList.drop 388 = sL_law_388 := dn1 hL_law_387
theorem dL_law_388 : decode cL_law 388 = .ok (.goto 1439, 3) := dk167 hL_law_388 (by decide)
theorem hL_law_391 : cL_law.data.toList.drop 391 = sL_law_391 := dn3 hL_law_388
theorem dL_law_391 : decode cL_law 391 = .ok (.aload_n 1, 1) := dk43 hL_law_391
theorem hL_law_392 : cL_law.data.toList.drop 392 = sL_law_392 := dn1 hL_law_391
theorem dL_law_392 : decode cL_law 392 = .ok (.invokevirtual 33, 3) := dk182 hL_law_392 rfl
theorem hL_law_395 : cL_law.data.toList.drop 395 = sL_law_395 := dn3 hL_law_392
theorem dL_law_395 : decode cL_law 395 = .ok (.pop, 1) := dk87 hL_law_395
theorem hL_law_396 : cL_law.data.toList.drop 396 = sL_law_396 := dn1 hL_law_395
theorem dL_law_396 : decode cL_law 396 = .ok (.aload_n 2, 1) := dk44 hL_law_396
theorem hL_law_397 : cL_law.data.toList.drop 397 = sL_law_397 := dn1 hL_law_396
theorem dL_law_397 : decode cL_law 397 = .ok (.invokevirtual 36, 3) := dk182 hL_law_397 rfl
theorem hL_law_400 : cL_law.data.toList.drop 400 = sL_law_400 := dn3 hL_law_397
theorem dL_law_400 : decode cL_law 400 = .ok (.pop, 1) := dk87 hL_law_400
theorem hL_law_401 : cL_law.data.toList.drop 401 = sL_law_401 := dn1 hL_law_400
theorem dL_law_401 : decode cL_law 401 = .ok (.goto 1426, 3) := dk167 hL_law_401 (by decide)
theorem hL_law_404 : cL_law.data.toList.drop 404 = sL_law_404 := dn3 hL_law_401
theorem dL_law_404 : decode cL_law 404 = .ok (.aload_n 1, 1) := dk43 hL_law_404
theorem hL_law_405 : cL_law.data.toList.drop 405 = sL_law_405 := dn1 hL_law_404
theorem dL_law_405 : decode cL_law 405 = .ok (.aload_n 0, 1) := dk42 hL_law_405
theorem hL_law_406 : cL_law.data.toList.drop 406 = sL_law_406 := dn1 hL_law_405
theorem dL_law_406 : decode cL_law 406 = .ok (.iload 4, 2) := dk21 hL_law_406 rfl
theorem hL_law_408 : cL_law.data.toList.drop 408 = sL_law_408 := dn2 hL_law_406
theorem dL_law_408 : decode cL_law 408 = .ok (.iconst 1, 1) := dk4 hL_law_408
theorem hL_law_409 : cL_law.data.toList.drop 409 = sL_law_409 := dn1 hL_law_408
theorem dL_law_409 : decode cL_law 409 = .ok (.iadd, 1) := dk96 hL_law_409
theorem hL_law_410 : cL_law.data.toList.drop 410 = sL_law_410 := dn1 hL_law_409
theorem dL_law_410 : decode cL_law 410 = .ok (.iaload, 1) := dk46 hL_law_410
theorem hL_law_411 : cL_law.data.toList.drop 411 = sL_law_411 := dn1 hL_law_410
theorem dL_law_411 : decode cL_law 411 = .ok (.aload_n 0, 1) := dk42 hL_law_411
theorem hL_law_412 : cL_law.data.toList.drop 412 = sL_law_412 := dn1 hL_law_411
theorem dL_law_412 : decode cL_law 412 = .ok (.iload 4, 2) := dk21 hL_law_412 rfl
theorem hL_law_414 : cL_law.data.toList.drop 414 = sL_law_414 := dn2 hL_law_412
theorem dL_law_414 : decode cL_law 414 = .ok (.iconst 2, 1) := dk5 hL_law_414
theorem hL_law_415 : cL_law.data.toList.drop 415 = sL_law_415 := dn1 hL_law_414
theorem dL_law_415 : decode cL_law 415 = .ok (.iadd, 1) := dk96 hL_law_415
theorem hL_law_416 : cL_law.data.toList.drop 416 = sL_law_416 := dn1 hL_law_415
theorem dL_law_416 : decode cL_law 416 = .ok (.iaload, 1) := dk46 hL_law_416
theorem hL_law_417 : cL_law.data.toList.drop 417 = sL_law_417 := dn1 hL_law_416
theorem dL_law_417 : decode cL_law 417 = .ok (.invokevirtual 37, 3) := dk182 hL_law_417 rfl
theorem hL_law_420 : cL_law.data.toList.drop 420 = sL_law_420 := dn3 hL_law_417
theorem dL_law_420 : decode cL_law 420 = .ok (.pop, 1) := dk87 hL_law_420
theorem hL_law_421 : cL_law.data.toList.drop 421 = sL_law_421 := dn1 hL_law_420
theorem dL_law_421 : decode cL_law 421 = .ok (.aload_n 2, 1) := dk44 hL_law_421
theorem hL_law_422 : cL_law.data.toList.drop 422 = sL_law_422 := dn1 hL_law_421
theorem dL_law_422 : decode cL_law 422 = .ok (.aload_n 0, 1) := dk42 hL_law_422
theorem hL_law_423 : cL_law.data.toList.drop 423 = sL_law_423 := dn1 hL_law_422
theorem dL_law_423 : decode cL_law 423 = .ok (.iload 4, 2) := dk21 hL_law_423 rfl
theorem hL_law_425 : cL_law.data.toList.drop 425 = sL_law_425 := dn2 hL_law_423
theorem dL_law_425 : decode cL_law 425 = .ok (.iconst 1, 1) := dk4 hL_law_425
theorem hL_law_426 : cL_law.data.toList.drop 426 = sL_law_426 := dn1 hL_law_425
theorem dL_law_426 : decode cL_law 426 = .ok (.iadd, 1) := dk96 hL_law_426
theorem hL_law_427 : cL_law.data.toList.drop 427 = sL_law_427 := dn1 hL_law_426
theorem dL_law_427 : decode cL_law 427 = .ok (.iaload, 1) := dk46 hL_law_427
theorem hL_law_428 : cL_law.data.toList.drop 428 = sL_law_428 := dn1 hL_law_427
theorem dL_law_428 : decode cL_law 428 = .ok (.aload_n 0, 1) := dk42 hL_law_428
theorem hL_law_429 : cL_law.data.toList.drop 429 = sL_law_429 := dn1 hL_law_428
theorem dL_law_429 : decode cL_law 429 = .ok (.iload 4, 2) := dk21 hL_law_429 rfl
theorem hL_law_431 : cL_law.data.toList.drop 431 = sL_law_431 := dn2 hL_law_429
theorem dL_law_431 : decode cL_law 431 = .ok (.iconst 2, 1) := dk5 hL_law_431
theorem hL_law_432 : cL_law.data.toList.drop 432 = sL_law_432 := dn1 hL_law_431
theorem dL_law_432 : decode cL_law 432 = .ok (.iadd, 1) := dk96 hL_law_432
theorem hL_law_433 : cL_law.data.toList.drop 433 = sL_law_433 := dn1 hL_law_432
theorem dL_law_433 : decode cL_law 433 = .ok (.iaload, 1) := dk46 hL_law_433
theorem hL_law_434 : cL_law.data.toList.drop 434 = sL_law_434 := dn1 hL_law_433
theorem dL_law_434 : decode cL_law 434 = .ok (.invokevirtual 41, 3) := dk182 hL_law_434 rfl
theorem hL_law_437 : cL_law.data.toList.drop 437 = sL_law_437 := dn3 hL_law_434
theorem dL_law_437 : decode cL_law 437 = .ok (.pop, 1) := dk87 hL_law_437
theorem hL_law_438 : cL_law.data.toList.drop 438 = sL_law_438 := dn1 hL_law_437
theorem dL_law_438 : decode cL_law 438 = .ok (.goto 1389, 3) := dk167 hL_law_438 (by decide)
theorem hL_law_441 : cL_law.data.toList.drop 441 = sL_law_441 := dn3 hL_law_438
theorem dL_law_441 : decode cL_law 441 = .ok (.aload_n 1, 1) := dk43 hL_law_441
theorem hL_law_442 : cL_law.data.toList.drop 442 = sL_law_442 := dn1 hL_law_441
theorem dL_law_442 : decode cL_law 442 = .ok (.aload_n 0, 1) := dk42 hL_law_442
theorem hL_law_443 : cL_law.data.toList.drop 443 = sL_law_443 := dn1 hL_law_442
theorem dL_law_443 : decode cL_law 443 = .ok (.iload 4, 2) := dk21 hL_law_443 rfl
theorem hL_law_445 : cL_law.data.toList.drop 445 = sL_law_445 := dn2 hL_law_443
theorem dL_law_445 : decode cL_law 445 = .ok (.iconst 1, 1) := dk4 hL_law_445
theorem hL_law_446 : cL_law.data.toList.drop 446 = sL_law_446 := dn1 hL_law_445
theorem dL_law_446 : decode cL_law 446 = .ok (.iadd, 1) := dk96 hL_law_446
theorem hL_law_447 : cL_law.data.toList.drop 447 = sL_law_447 := dn1 hL_law_446
theorem dL_law_447 : decode cL_law 447 = .ok (.iaload, 1) := dk46 hL_law_447
theorem hL_law_448 : cL_law.data.toList.drop 448 = sL_law_448 := dn1 hL_law_447
theorem dL_law_448 : decode cL_law 448 = .ok (.aload_n 0, 1) := dk42 hL_law_448
theorem hL_law_449 : cL_law.data.toList.drop 449 = sL_law_449 := dn1 hL_law_448
theorem dL_law_449 : decode cL_law 449 = .ok (.iload 4, 2) := dk21 hL_law_449 rfl
theorem hL_law_451 : cL_law.data.toList.drop 451 = sL_law_451 := dn2 hL_law_449
theorem dL_law_451 : decode cL_law 451 = .ok (.iconst 2, 1) := dk5 hL_law_451
theorem hL_law_452 : cL_law.data.toList.drop 452 = sL_law_452 := dn1 hL_law_451
theorem dL_law_452 : decode cL_law 452 = .ok (.iadd, 1) := dk96 hL_law_452
theorem hL_law_453 : cL_law.data.toList.drop 453 = sL_law_453 := dn1 hL_law_452
theorem dL_law_453 : decode cL_law 453 = .ok (.iaload, 1) := dk46 hL_law_453
theorem hL_law_454 : cL_law.data.toList.drop 454 = sL_law_454 := dn1 hL_law_453
theorem dL_law_454 : decode cL_law 454 = .ok (.invokevirtual 42, 3) := dk182 hL_law_454 rfl
theorem hL_law_457 : cL_law.data.toList.drop 457 = sL_law_457 := dn3 hL_law_454
theorem dL_law_457 : decode cL_law 457 = .ok (.pop, 1) := dk87 hL_law_457
theorem hL_law_458 : cL_law.data.toList.drop 458 = sL_law_458 := dn1 hL_law_457
theorem dL_law_458 : decode cL_law 458 = .ok (.aload_n 2, 1) := dk44 hL_law_458
theorem hL_law_459 : cL_law.data.toList.drop 459 = sL_law_459 := dn1 hL_law_458
theorem dL_law_459 : decode cL_law 459 = .ok (.aload_n 0, 1) := dk42 hL_law_459
theorem hL_law_460 : cL_law.data.toList.drop 460 = sL_law_460 := dn1 hL_law_459
theorem dL_law_460 : decode cL_law 460 = .ok (.iload 4, 2) := dk21 hL_law_460 rfl
theorem hL_law_462 : cL_law.data.toList.drop 462 = sL_law_462 := dn2 hL_law_460
theorem dL_law_462 : decode cL_law 462 = .ok (.iconst 1, 1) := dk4 hL_law_462
theorem hL_law_463 : cL_law.data.toList.drop 463 = sL_law_463 := dn1 hL_law_462
theorem dL_law_463 : decode cL_law 463 = .ok (.iadd, 1) := dk96 hL_law_463
theorem hL_law_464 : cL_law.data.toList.drop 464 = sL_law_464 := dn1 hL_law_463
theorem dL_law_464 : decode cL_law 464 = .ok (.iaload, 1) := dk46 hL_law_464
theorem hL_law_465 : cL_law.data.toList.drop 465 = sL_law_465 := dn1 hL_law_464
theorem dL_law_465 : decode cL_law 465 = .ok (.aload_n 0, 1) := dk42 hL_law_465
theorem hL_law_466 : cL_law.data.toList.drop 466 = sL_law_466 := dn1 hL_law_465
theorem dL_law_466 : decode cL_law 466 = .ok (.iload 4, 2) := dk21 hL_law_466 rfl
theorem hL_law_468 : cL_law.data.toList.drop 468 = sL_law_468 := dn2 hL_law_466
theorem dL_law_468 : decode cL_law 468 = .ok (.iconst 2, 1) := dk5 hL_law_468
theorem hL_law_469 : cL_law.data.toList.drop 469 = sL_law_469 := dn1 hL_law_468
theorem dL_law_469 : decode cL_law 469 = .ok (.iadd, 1) := dk96 hL_law_469
theorem hL_law_470 : cL_law.data.toList.drop 470 = sL_law_470 := dn1 hL_law_469
theorem dL_law_470 : decode cL_law 470 = .ok (.iaload, 1) := dk46 hL_law_470
theorem hL_law_471 : cL_law.data.toList.drop 471 = sL_law_471 := dn1 hL_law_470
theorem dL_law_471 : decode cL_law 471 = .ok (.invokevirtual 45, 3) := dk182 hL_law_471 rfl
theorem hL_law_474 : cL_law.data.toList.drop 474 = sL_law_474 := dn3 hL_law_471
theorem dL_law_474 : decode cL_law 474 = .ok (.pop, 1) := dk87 hL_law_474
theorem hL_law_475 : cL_law.data.toList.drop 475 = sL_law_475 := dn1 hL_law_474
theorem dL_law_475 : decode cL_law 475 = .ok (.goto 1352, 3) := dk167 hL_law_475 (by decide)
theorem hL_law_478 : cL_law.data.toList.drop 478 = sL_law_478 := dn3 hL_law_475
theorem dL_law_478 : decode cL_law 478 = .ok (.aload_n 1, 1) := dk43 hL_law_478
theorem hL_law_479 : cL_law.data.toList.drop 479 = sL_law_479 := dn1 hL_law_478
theorem dL_law_479 : decode cL_law 479 = .ok (.aload_n 0, 1) := dk42 hL_law_479
theorem hL_law_480 : cL_law.data.toList.drop 480 = sL_law_480 := dn1 hL_law_479
theorem dL_law_480 : decode cL_law 480 = .ok (.iload 4, 2) := dk21 hL_law_480 rfl
theorem hL_law_482 : cL_law.data.toList.drop 482 = sL_law_482 := dn2 hL_law_480
theorem dL_law_482 : decode cL_law 482 = .ok (.iconst 1, 1) := dk4 hL_law_482
theorem hL_law_483 : cL_law.data.toList.drop 483 = sL_law_483 := dn1 hL_law_482
theorem dL_law_483 : decode cL_law 483 = .ok (.iadd, 1) := dk96 hL_law_483
theorem hL_law_484 : cL_law.data.toList.drop 484 = sL_law_484 := dn1 hL_law_483
theorem dL_law_484 : decode cL_law 484 = .ok (.iaload, 1) := dk46 hL_law_484
theorem hL_law_485 : cL_law.data.toList.drop 485 = sL_law_485 := dn1 hL_law_484
theorem dL_law_485 : decode cL_law 485 = .ok (.aload_n 0, 1) := dk42 hL_law_485
theorem hL_law_486 : cL_law.data.toList.drop 486 = sL_law_486 := dn1 hL_law_485
theorem dL_law_486 : decode cL_law 486 = .ok (.iload 4, 2) := dk21 hL_law_486 rfl
theorem hL_law_488 : cL_law.data.toList.drop 488 = sL_law_488 := dn2 hL_law_486
theorem dL_law_488 : decode cL_law 488 = .ok (.iconst 2, 1) := dk5 hL_law_488
theorem hL_law_489 : cL_law.data.toList.drop 489 = sL_law_489 := dn1 hL_law_488
theorem dL_law_489 : decode cL_law 489 = .ok (.iadd, 1) := dk96 hL_law_489
theorem hL_law_490 : cL_law.data.toList.drop 490 = sL_law_490 := dn1 hL_law_489
theorem dL_law_490 : decode cL_law 490 = .ok (.iaload, 1) := dk46 hL_law_490
theorem hL_law_491 : cL_law.data.toList.drop 491 = sL_law_491 := dn1 hL_law_490
theorem dL_law_491 : decode cL_law 491 = .ok (.invokevirtual 46, 3) := dk182 hL_law_491 rfl
theorem hL_law_494 : cL_law.data.toList.drop 494 = sL_law_494 := dn3 hL_law_491
theorem dL_law_494 : decode cL_law 494 = .ok (.pop, 1) := dk87 hL_law_494
theorem hL_law_495 : cL_law.data.toList.drop 495 = sL_law_495 := dn1 hL_law_494
theorem dL_law_495 : decode cL_law 495 = .ok (.aload_n 2, 1) := dk44 hL_law_495
theorem hL_law_496 : cL_law.data.toList.drop 496 = sL_law_496 := dn1 hL_law_495
theorem dL_law_496 : decode cL_law 496 = .ok (.aload_n 0, 1) := dk42 hL_law_496
theorem hL_law_497 : cL_law.data.toList.drop 497 = sL_law_497 := dn1 hL_law_496
theorem dL_law_497 : decode cL_law 497 = .ok (.iload 4, 2) := dk21 hL_law_497 rfl
theorem hL_law_499 : cL_law.data.toList.drop 499 = sL_law_499 := dn2 hL_law_497
theorem dL_law_499 : decode cL_law 499 = .ok (.iconst 1, 1) := dk4 hL_law_499
theorem hL_law_500 : cL_law.data.toList.drop 500 = sL_law_500 := dn1 hL_law_499
theorem dL_law_500 : decode cL_law 500 = .ok (.iadd, 1) := dk96 hL_law_500
theorem hL_law_501 : cL_law.data.toList.drop 501 = sL_law_501 := dn1 hL_law_500
theorem dL_law_501 : decode cL_law 501 = .ok (.iaload, 1) := dk46 hL_law_501
theorem hL_law_502 : cL_law.data.toList.drop 502 = sL_law_502 := dn1 hL_law_501
theorem dL_law_502 : decode cL_law 502 = .ok (.aload_n 0, 1) := dk42 hL_law_502
theorem hL_law_503 : cL_law.data.toList.drop 503 = sL_law_503 := dn1 hL_law_502
theorem dL_law_503 : decode cL_law 503 = .ok (.iload 4, 2) := dk21 hL_law_503 rfl
theorem hL_law_505 : cL_law.data.toList.drop 505 = sL_law_505 := dn2 hL_law_503
theorem dL_law_505 : decode cL_law 505 = .ok (.iconst 2, 1) := dk5 hL_law_505
theorem hL_law_506 : cL_law.data.toList.drop 506 = sL_law_506 := dn1 hL_law_505
theorem dL_law_506 : decode cL_law 506 = .ok (.iadd, 1) := dk96 hL_law_506
theorem hL_law_507 : cL_law.data.toList.drop 507 = sL_law_507 := dn1 hL_law_506
theorem dL_law_507 : decode cL_law 507 = .ok (.iaload, 1) := dk46 hL_law_507
theorem hL_law_508 : cL_law.data.toList.drop 508 = sL_law_508 := dn1 hL_law_507
theorem dL_law_508 : decode cL_law 508 = .ok (.invokevirtual 49, 3) := dk182 hL_law_508 rfl
theorem hL_law_511 : cL_law.data.toList.drop 511 = sL_law_511 := dn3 hL_law_508
theorem dL_law_511 : decode cL_law 511 = .ok (.pop, 1) := dk87 hL_law_511
theorem hL_law_512 : cL_law.data.toList.drop 512 = sL_law_512 := dn1 hL_law_511
theorem dL_law_512 : decode cL_law 512 = .ok (.goto 1315, 3) := dk167 hL_law_512 (by decide)
theorem hL_law_515 : cL_law.data.toList.drop 515 = sL_law_515 := dn3 hL_law_512
theorem dL_law_515 : decode cL_law 515 = .ok (.aload_n 1, 1) := dk43 hL_law_515
theorem hL_law_516 : cL_law.data.toList.drop 516 = sL_law_516 := dn1 hL_law_515
theorem dL_law_516 : decode cL_law 516 = .ok (.invokevirtual 50, 3) := dk182 hL_law_516 rfl
theorem hL_law_519 : cL_law.data.toList.drop 519 = sL_law_519 := dn3 hL_law_516
theorem dL_law_519 : decode cL_law 519 = .ok (.pop, 1) := dk87 hL_law_519
theorem hL_law_520 : cL_law.data.toList.drop 520 = sL_law_520 := dn1 hL_law_519
theorem dL_law_520 : decode cL_law 520 = .ok (.aload_n 2, 1) := dk44 hL_law_520
theorem hL_law_521 : cL_law.data.toList.drop 521 = sL_law_521 := dn1 hL_law_520
theorem dL_law_521 : decode cL_law 521 = .ok (.invokevirtual 53, 3) := dk182 hL_law_521 rfl
theorem hL_law_524 : cL_law.data.toList.drop 524 = sL_law_524 := dn3 hL_law_521
theorem dL_law_524 : decode cL_law 524 = .ok (.pop, 1) := dk87 hL_law_524
theorem hL_law_525 : cL_law.data.toList.drop 525 = sL_law_525 := dn1 hL_law_524
theorem dL_law_525 : decode cL_law 525 = .ok (.goto 1302, 3) := dk167 hL_law_525 (by decide)
theorem hL_law_528 : cL_law.data.toList.drop 528 = sL_law_528 := dn3 hL_law_525
theorem dL_law_528 : decode cL_law 528 = .ok (.aload_n 1, 1) := dk43 hL_law_528
theorem hL_law_529 : cL_law.data.toList.drop 529 = sL_law_529 := dn1 hL_law_528
theorem dL_law_529 : decode cL_law 529 = .ok (.aload_n 0, 1) := dk42 hL_law_529
theorem hL_law_530 : cL_law.data.toList.drop 530 = sL_law_530 := dn1 hL_law_529
theorem dL_law_530 : decode cL_law 530 = .ok (.iload 4, 2) := dk21 hL_law_530 rfl
theorem hL_law_532 : cL_law.data.toList.drop 532 = sL_law_532 := dn2 hL_law_530
theorem dL_law_532 : decode cL_law 532 = .ok (.iconst 1, 1) := dk4 hL_law_532
theorem hL_law_533 : cL_law.data.toList.drop 533 = sL_law_533 := dn1 hL_law_532
theorem dL_law_533 : decode cL_law 533 = .ok (.iadd, 1) := dk96 hL_law_533
theorem hL_law_534 : cL_law.data.toList.drop 534 = sL_law_534 := dn1 hL_law_533
theorem dL_law_534 : decode cL_law 534 = .ok (.iaload, 1) := dk46 hL_law_534
theorem hL_law_535 : cL_law.data.toList.drop 535 = sL_law_535 := dn1 hL_law_534
theorem dL_law_535 : decode cL_law 535 = .ok (.aload_n 0, 1) := dk42 hL_law_535
theorem hL_law_536 : cL_law.data.toList.drop 536 = sL_law_536 := dn1 hL_law_535
theorem dL_law_536 : decode cL_law 536 = .ok (.iload 4, 2) := dk21 hL_law_536 rfl
theorem hL_law_538 : cL_law.data.toList.drop 538 = sL_law_538 := dn2 hL_law_536
theorem dL_law_538 : decode cL_law 538 = .ok (.iconst 2, 1) := dk5 hL_law_538
theorem hL_law_539 : cL_law.data.toList.drop 539 = sL_law_539 := dn1 hL_law_538
theorem dL_law_539 : decode cL_law 539 = .ok (.iadd, 1) := dk96 hL_law_539
theorem hL_law_540 : cL_law.data.toList.drop 540 = sL_law_540 := dn1 hL_law_539
theorem dL_law_540 : decode cL_law 540 = .ok (.iaload, 1) := dk46 hL_law_540
theorem hL_law_541 : cL_law.data.toList.drop 541 = sL_law_541 := dn1 hL_law_540
theorem dL_law_541 : decode cL_law 541 = .ok (.ifCond .eq 7, 3) := dk153 hL_law_541 (by decide)
theorem hL_law_544 : cL_law.data.toList.drop 544 = sL_law_544 := dn3 hL_law_541
theorem dL_law_544 : decode cL_law 544 = .ok (.iconst 1, 1) := dk4 hL_law_544
theorem hL_law_545 : cL_law.data.toList.drop 545 = sL_law_545 := dn1 hL_law_544
theorem dL_law_545 : decode cL_law 545 = .ok (.goto 4, 3) := dk167 hL_law_545 (by decide)
theorem hL_law_548 : cL_law.data.toList.drop 548 = sL_law_548 := dn3 hL_law_545
theorem dL_law_548 : decode cL_law 548 = .ok (.iconst 0, 1) := dk3 hL_law_548
theorem hL_law_549 : cL_law.data.toList.drop 549 = sL_law_549 := dn1 hL_law_548
theorem dL_law_549 : decode cL_law 549 = .ok (.invokevirtual 54, 3) := dk182 hL_law_549 rfl
theorem hL_law_552 : cL_law.data.toList.drop 552 = sL_law_552 := dn3 hL_law_549
theorem dL_law_552 : decode cL_law 552 = .ok (.pop2, 1) := dk88 hL_law_552
theorem hL_law_553 : cL_law.data.toList.drop 553 = sL_law_553 := dn1 hL_law_552
theorem dL_law_553 : decode cL_law 553 = .ok (.aload_n 2, 1) := dk44 hL_law_553
theorem hL_law_554 : cL_law.data.toList.drop 554 = sL_law_554 := dn1 hL_law_553
theorem dL_law_554 : decode cL_law 554 = .ok (.aload_n 0, 1) := dk42 hL_law_554
theorem hL_law_555 : cL_law.data.toList.drop 555 = sL_law_555 := dn1 hL_law_554
theorem dL_law_555 : decode cL_law 555 = .ok (.iload 4, 2) := dk21 hL_law_555 rfl
theorem hL_law_557 : cL_law.data.toList.drop 557 = sL_law_557 := dn2 hL_law_555
theorem dL_law_557 : decode cL_law 557 = .ok (.iconst 1, 1) := dk4 hL_law_557
theorem hL_law_558 : cL_law.data.toList.drop 558 = sL_law_558 := dn1 hL_law_557
theorem dL_law_558 : decode cL_law 558 = .ok (.iadd, 1) := dk96 hL_law_558
theorem hL_law_559 : cL_law.data.toList.drop 559 = sL_law_559 := dn1 hL_law_558
theorem dL_law_559 : decode cL_law 559 = .ok (.iaload, 1) := dk46 hL_law_559
theorem hL_law_560 : cL_law.data.toList.drop 560 = sL_law_560 := dn1 hL_law_559
theorem dL_law_560 : decode cL_law 560 = .ok (.aload_n 0, 1) := dk42 hL_law_560
theorem hL_law_561 : cL_law.data.toList.drop 561 = sL_law_561 := dn1 hL_law_560
theorem dL_law_561 : decode cL_law 561 = .ok (.iload 4, 2) := dk21 hL_law_561 rfl
theorem hL_law_563 : cL_law.data.toList.drop 563 = sL_law_563 := dn2 hL_law_561
theorem dL_law_563 : decode cL_law 563 = .ok (.iconst 2, 1) := dk5 hL_law_563
theorem hL_law_564 : cL_law.data.toList.drop 564 = sL_law_564 := dn1 hL_law_563
theorem dL_law_564 : decode cL_law 564 = .ok (.iadd, 1) := dk96 hL_law_564
theorem hL_law_565 : cL_law.data.toList.drop 565 = sL_law_565 := dn1 hL_law_564
theorem dL_law_565 : decode cL_law 565 = .ok (.iaload, 1) := dk46 hL_law_565
theorem hL_law_566 : cL_law.data.toList.drop 566 = sL_law_566 := dn1 hL_law_565
theorem dL_law_566 : decode cL_law 566 = .ok (.ifCond .eq 7, 3) := dk153 hL_law_566 (by decide)
theorem hL_law_569 : cL_law.data.toList.drop 569 = sL_law_569 := dn3 hL_law_566
theorem dL_law_569 : decode cL_law 569 = .ok (.iconst 1, 1) := dk4 hL_law_569
theorem hL_law_570 : cL_law.data.toList.drop 570 = sL_law_570 := dn1 hL_law_569
theorem dL_law_570 : decode cL_law 570 = .ok (.goto 4, 3) := dk167 hL_law_570 (by decide)
theorem hL_law_573 : cL_law.data.toList.drop 573 = sL_law_573 := dn3 hL_law_570
theorem dL_law_573 : decode cL_law 573 = .ok (.iconst 0, 1) := dk3 hL_law_573
theorem hL_law_574 : cL_law.data.toList.drop 574 = sL_law_574 := dn1 hL_law_573
theorem dL_law_574 : decode cL_law 574 = .ok (.invokevirtual 58, 3) := dk182 hL_law_574 rfl
theorem hL_law_577 : cL_law.data.toList.drop 577 = sL_law_577 := dn3 hL_law_574
theorem dL_law_577 : decode cL_law 577 = .ok (.pop2, 1) := dk88 hL_law_577
theorem hL_law_578 : cL_law.data.toList.drop 578 = sL_law_578 := dn1 hL_law_577
theorem dL_law_578 : decode cL_law 578 = .ok (.goto 1249, 3) := dk167 hL_law_578 (by decide)
theorem hL_law_581 : cL_law.data.toList.drop 581 = sL_law_581 := dn3 hL_law_578
theorem dL_law_581 : decode cL_law 581 = .ok (.aload_n 1, 1) := dk43 hL_law_581
theorem hL_law_582 : cL_law.data.toList.drop 582 = sL_law_582 := dn1 hL_law_581
theorem dL_law_582 : decode cL_law 582 = .ok (.aload_n 0, 1) := dk42 hL_law_582
theorem hL_law_583 : cL_law.data.toList.drop 583 = sL_law_583 := dn1 hL_law_582
theorem dL_law_583 : decode cL_law 583 = .ok (.iload 4, 2) := dk21 hL_law_583 rfl
theorem hL_law_585 : cL_law.data.toList.drop 585 = sL_law_585 := dn2 hL_law_583
theorem dL_law_585 : decode cL_law 585 = .ok (.iconst 1, 1) := dk4 hL_law_585
theorem hL_law_586 : cL_law.data.toList.drop 586 = sL_law_586 := dn1 hL_law_585
theorem dL_law_586 : decode cL_law 586 = .ok (.iadd, 1) := dk96 hL_law_586
theorem hL_law_587 : cL_law.data.toList.drop 587 = sL_law_587 := dn1 hL_law_586
theorem dL_law_587 : decode cL_law 587 = .ok (.iaload, 1) := dk46 hL_law_587
theorem hL_law_588 : cL_law.data.toList.drop 588 = sL_law_588 := dn1 hL_law_587
theorem dL_law_588 : decode cL_law 588 = .ok (.invokevirtual 59, 3) := dk182 hL_law_588 rfl
theorem hL_law_591 : cL_law.data.toList.drop 591 = sL_law_591 := dn3 hL_law_588
theorem dL_law_591 : decode cL_law 591 = .ok (.pop, 1) := dk87 hL_law_591
theorem hL_law_592 : cL_law.data.toList.drop 592 = sL_law_592 := dn1 hL_law_591
theorem dL_law_592 : decode cL_law 592 = .ok (.aload_n 2, 1) := dk44 hL_law_592
theorem hL_law_593 : cL_law.data.toList.drop 593 = sL_law_593 := dn1 hL_law_592
theorem dL_law_593 : decode cL_law 593 = .ok (.aload_n 0, 1) := dk42 hL_law_593
theorem hL_law_594 : cL_law.data.toList.drop 594 = sL_law_594 := dn1 hL_law_593
theorem dL_law_594 : decode cL_law 594 = .ok (.iload 4, 2) := dk21 hL_law_594 rfl
theorem hL_law_596 : cL_law.data.toList.drop 596 = sL_law_596 := dn2 hL_law_594
theorem dL_law_596 : decode cL_law 596 = .ok (.iconst 1, 1) := dk4 hL_law_596
theorem hL_law_597 : cL_law.data.toList.drop 597 = sL_law_597 := dn1 hL_law_596
theorem dL_law_597 : decode cL_law 597 = .ok (.iadd, 1) := dk96 hL_law_597
theorem hL_law_598 : cL_law.data.toList.drop 598 = sL_law_598 := dn1 hL_law_597
theorem dL_law_598 : decode cL_law 598 = .ok (.iaload, 1) := dk46 hL_law_598
theorem hL_law_599 : cL_law.data.toList.drop 599 = sL_law_599 := dn1 hL_law_598
theorem dL_law_599 : decode cL_law 599 = .ok (.invokevirtual 62, 3) := dk182 hL_law_599 rfl
theorem hL_law_602 : cL_law.data.toList.drop 602 = sL_law_602 := dn3 hL_law_599
theorem dL_law_602 : decode cL_law 602 = .ok (.pop, 1) := dk87 hL_law_602
theorem hL_law_603 : cL_law.data.toList.drop 603 = sL_law_603 := dn1 hL_law_602
theorem dL_law_603 : decode cL_law 603 = .ok (.goto 1224, 3) := dk167 hL_law_603 (by decide)
theorem hL_law_606 : cL_law.data.toList.drop 606 = sL_law_606 := dn3 hL_law_603
theorem dL_law_606 : decode cL_law 606 = .ok (.aload_n 1, 1) := dk43 hL_law_606
theorem hL_law_607 : cL_law.data.toList.drop 607 = sL_law_607 := dn1 hL_law_606
theorem dL_law_607 : decode cL_law 607 = .ok (.invokevirtual 63, 3) := dk182 hL_law_607 rfl
theorem hL_law_610 : cL_law.data.toList.drop 610 = sL_law_610 := dn3 hL_law_607
theorem dL_law_610 : decode cL_law 610 = .ok (.pop, 1) := dk87 hL_law_610
theorem hL_law_611 : cL_law.data.toList.drop 611 = sL_law_611 := dn1 hL_law_610
theorem dL_law_611 : decode cL_law 611 = .ok (.aload_n 2, 1) := dk44 hL_law_611
theorem hL_law_612 : cL_law.data.toList.drop 612 = sL_law_612 := dn1 hL_law_611
theorem dL_law_612 : decode cL_law 612 = .ok (.invokevirtual 66, 3) := dk182 hL_law_612 rfl
theorem hL_law_615 : cL_law.data.toList.drop 615 = sL_law_615 := dn3 hL_law_612
theorem dL_law_615 : decode cL_law 615 = .ok (.pop, 1) := dk87 hL_law_615
theorem hL_law_616 : cL_law.data.toList.drop 616 = sL_law_616 := dn1 hL_law_615
theorem dL_law_616 : decode cL_law 616 = .ok (.goto 1211, 3) := dk167 hL_law_616 (by decide)
theorem hL_law_619 : cL_law.data.toList.drop 619 = sL_law_619 := dn3 hL_law_616
theorem dL_law_619 : decode cL_law 619 = .ok (.aload_n 1, 1) := dk43 hL_law_619
theorem hL_law_620 : cL_law.data.toList.drop 620 = sL_law_620 := dn1 hL_law_619
theorem dL_law_620 : decode cL_law 620 = .ok (.aload_n 0, 1) := dk42 hL_law_620
theorem hL_law_621 : cL_law.data.toList.drop 621 = sL_law_621 := dn1 hL_law_620
theorem dL_law_621 : decode cL_law 621 = .ok (.iload 4, 2) := dk21 hL_law_621 rfl
theorem hL_law_623 : cL_law.data.toList.drop 623 = sL_law_623 := dn2 hL_law_621
theorem dL_law_623 : decode cL_law 623 = .ok (.iconst 1, 1) := dk4 hL_law_623
theorem hL_law_624 : cL_law.data.toList.drop 624 = sL_law_624 := dn1 hL_law_623
theorem dL_law_624 : decode cL_law 624 = .ok (.iadd, 1) := dk96 hL_law_624
theorem hL_law_625 : cL_law.data.toList.drop 625 = sL_law_625 := dn1 hL_law_624
theorem dL_law_625 : decode cL_law 625 = .ok (.iaload, 1) := dk46 hL_law_625
theorem hL_law_626 : cL_law.data.toList.drop 626 = sL_law_626 := dn1 hL_law_625
theorem dL_law_626 : decode cL_law 626 = .ok (.invokevirtual 67, 3) := dk182 hL_law_626 rfl
theorem hL_law_629 : cL_law.data.toList.drop 629 = sL_law_629 := dn3 hL_law_626
theorem dL_law_629 : decode cL_law 629 = .ok (.pop, 1) := dk87 hL_law_629
theorem hL_law_630 : cL_law.data.toList.drop 630 = sL_law_630 := dn1 hL_law_629
theorem dL_law_630 : decode cL_law 630 = .ok (.aload_n 2, 1) := dk44 hL_law_630
theorem hL_law_631 : cL_law.data.toList.drop 631 = sL_law_631 := dn1 hL_law_630
theorem dL_law_631 : decode cL_law 631 = .ok (.aload_n 0, 1) := dk42 hL_law_631
theorem hL_law_632 : cL_law.data.toList.drop 632 = sL_law_632 := dn1 hL_law_631
theorem dL_law_632 : decode cL_law 632 = .ok (.iload 4, 2) := dk21 hL_law_632 rfl
theorem hL_law_634 : cL_law.data.toList.drop 634 = sL_law_634 := dn2 hL_law_632
theorem dL_law_634 : decode cL_law 634 = .ok (.iconst 1, 1) := dk4 hL_law_634
theorem hL_law_635 : cL_law.data.toList.drop 635 = sL_law_635 := dn1 hL_law_634
theorem dL_law_635 : decode cL_law 635 = .ok (.iadd, 1) := dk96 hL_law_635
theorem hL_law_636 : cL_law.data.toList.drop 636 = sL_law_636 := dn1 hL_law_635
theorem dL_law_636 : decode cL_law 636 = .ok (.iaload, 1) := dk46 hL_law_636
theorem hL_law_637 : cL_law.data.toList.drop 637 = sL_law_637 := dn1 hL_law_636
theorem dL_law_637 : decode cL_law 637 = .ok (.invokevirtual 70, 3) := dk182 hL_law_637 rfl
theorem hL_law_640 : cL_law.data.toList.drop 640 = sL_law_640 := dn3 hL_law_637
theorem dL_law_640 : decode cL_law 640 = .ok (.pop, 1) := dk87 hL_law_640
theorem hL_law_641 : cL_law.data.toList.drop 641 = sL_law_641 := dn1 hL_law_640
theorem dL_law_641 : decode cL_law 641 = .ok (.goto 1186, 3) := dk167 hL_law_641 (by decide)
theorem hL_law_644 : cL_law.data.toList.drop 644 = sL_law_644 := dn3 hL_law_641
theorem dL_law_644 : decode cL_law 644 = .ok (.aload_n 1, 1) := dk43 hL_law_644
theorem hL_law_645 : cL_law.data.toList.drop 645 = sL_law_645 := dn1 hL_law_644
theorem dL_law_645 : decode cL_law 645 = .ok (.invokevirtual 71, 3) := dk182 hL_law_645 rfl
theorem hL_law_648 : cL_law.data.toList.drop 648 = sL_law_648 := dn3 hL_law_645
theorem dL_law_648 : decode cL_law 648 = .ok (.pop, 1) := dk87 hL_law_648
theorem hL_law_649 : cL_law.data.toList.drop 649 = sL_law_649 := dn1 hL_law_648
theorem dL_law_649 : decode cL_law 649 = .ok (.aload_n 2, 1) := dk44 hL_law_649
theorem hL_law_650 : cL_law.data.toList.drop 650 = sL_law_650 := dn1 hL_law_649
theorem dL_law_650 : decode cL_law 650 = .ok (.invokevirtual 74, 3) := dk182 hL_law_650 rfl
theorem hL_law_653 : cL_law.data.toList.drop 653 = sL_law_653 := dn3 hL_law_650
theorem dL_law_653 : decode cL_law 653 = .ok (.pop, 1) := dk87 hL_law_653
theorem hL_law_654 : cL_law.data.toList.drop 654 = sL_law_654 := dn1 hL_law_653
theorem dL_law_654 : decode cL_law 654 = .ok (.goto 1173, 3) := dk167 hL_law_654 (by decide)
theorem hL_law_657 : cL_law.data.toList.drop 657 = sL_law_657 := dn3 hL_law_654
theorem dL_law_657 : decode cL_law 657 = .ok (.aload_n 1, 1) := dk43 hL_law_657
theorem hL_law_658 : cL_law.data.toList.drop 658 = sL_law_658 := dn1 hL_law_657
theorem dL_law_658 : decode cL_law 658 = .ok (.invokevirtual 75, 3) := dk182 hL_law_658 rfl
theorem hL_law_661 : cL_law.data.toList.drop 661 = sL_law_661 := dn3 hL_law_658
theorem dL_law_661 : decode cL_law 661 = .ok (.pop, 1) := dk87 hL_law_661
theorem hL_law_662 : cL_law.data.toList.drop 662 = sL_law_662 := dn1 hL_law_661
theorem dL_law_662 : decode cL_law 662 = .ok (.aload_n 2, 1) := dk44 hL_law_662
theorem hL_law_663 : cL_law.data.toList.drop 663 = sL_law_663 := dn1 hL_law_662
theorem dL_law_663 : decode cL_law 663 = .ok (.invokevirtual 78, 3) := dk182 hL_law_663 rfl
theorem hL_law_666 : cL_law.data.toList.drop 666 = sL_law_666 := dn3 hL_law_663
theorem dL_law_666 : decode cL_law 666 = .ok (.pop, 1) := dk87 hL_law_666
theorem hL_law_667 : cL_law.data.toList.drop 667 = sL_law_667 := dn1 hL_law_666
theorem dL_law_667 : decode cL_law 667 = .ok (.goto 1160, 3) := dk167 hL_law_667 (by decide)
theorem hL_law_670 : cL_law.data.toList.drop 670 = sL_law_670 := dn3 hL_law_667
theorem dL_law_670 : decode cL_law 670 = .ok (.aload_n 1, 1) := dk43 hL_law_670
theorem hL_law_671 : cL_law.data.toList.drop 671 = sL_law_671 := dn1 hL_law_670
theorem dL_law_671 : decode cL_law 671 = .ok (.aload_n 0, 1) := dk42 hL_law_671
theorem hL_law_672 : cL_law.data.toList.drop 672 = sL_law_672 := dn1 hL_law_671
theorem dL_law_672 : decode cL_law 672 = .ok (.iload 4, 2) := dk21 hL_law_672 rfl
theorem hL_law_674 : cL_law.data.toList.drop 674 = sL_law_674 := dn2 hL_law_672
theorem dL_law_674 : decode cL_law 674 = .ok (.iconst 1, 1) := dk4 hL_law_674
theorem hL_law_675 : cL_law.data.toList.drop 675 = sL_law_675 := dn1 hL_law_674
theorem dL_law_675 : decode cL_law 675 = .ok (.iadd, 1) := dk96 hL_law_675
theorem hL_law_676 : cL_law.data.toList.drop 676 = sL_law_676 := dn1 hL_law_675
theorem dL_law_676 : decode cL_law 676 = .ok (.iaload, 1) := dk46 hL_law_676
theorem hL_law_677 : cL_law.data.toList.drop 677 = sL_law_677 := dn1 hL_law_676
theorem dL_law_677 : decode cL_law 677 = .ok (.invokevirtual 79, 3) := dk182 hL_law_677 rfl
theorem hL_law_680 : cL_law.data.toList.drop 680 = sL_law_680 := dn3 hL_law_677
theorem dL_law_680 : decode cL_law 680 = .ok (.pop, 1) := dk87 hL_law_680
theorem hL_law_681 : cL_law.data.toList.drop 681 = sL_law_681 := dn1 hL_law_680
theorem dL_law_681 : decode cL_law 681 = .ok (.aload_n 2, 1) := dk44 hL_law_681
theorem hL_law_682 : cL_law.data.toList.drop 682 = sL_law_682 := dn1 hL_law_681
theorem dL_law_682 : decode cL_law 682 = .ok (.aload_n 0, 1) := dk42 hL_law_682
theorem hL_law_683 : cL_law.data.toList.drop 683 = sL_law_683 := dn1 hL_law_682
theorem dL_law_683 : decode cL_law 683 = .ok (.iload 4, 2) := dk21 hL_law_683 rfl
theorem hL_law_685 : cL_law.data.toList.drop 685 = sL_law_685 := dn2 hL_law_683
theorem dL_law_685 : decode cL_law 685 = .ok (.iconst 1, 1) := dk4 hL_law_685
theorem hL_law_686 : cL_law.data.toList.drop 686 = sL_law_686 := dn1 hL_law_685
theorem dL_law_686 : decode cL_law 686 = .ok (.iadd, 1) := dk96 hL_law_686
theorem hL_law_687 : cL_law.data.toList.drop 687 = sL_law_687 := dn1 hL_law_686
theorem dL_law_687 : decode cL_law 687 = .ok (.iaload, 1) := dk46 hL_law_687
theorem hL_law_688 : cL_law.data.toList.drop 688 = sL_law_688 := dn1 hL_law_687
theorem dL_law_688 : decode cL_law 688 = .ok (.invokevirtual 82, 3) := dk182 hL_law_688 rfl
theorem hL_law_691 : cL_law.data.toList.drop 691 = sL_law_691 := dn3 hL_law_688
theorem dL_law_691 : decode cL_law 691 = .ok (.pop, 1) := dk87 hL_law_691
theorem hL_law_692 : cL_law.data.toList.drop 692 = sL_law_692 := dn1 hL_law_691
theorem dL_law_692 : decode cL_law 692 = .ok (.goto 1135, 3) := dk167 hL_law_692 (by decide)
theorem hL_law_695 : cL_law.data.toList.drop 695 = sL_law_695 := dn3 hL_law_692
theorem dL_law_695 : decode cL_law 695 = .ok (.aload_n 1, 1) := dk43 hL_law_695
theorem hL_law_696 : cL_law.data.toList.drop 696 = sL_law_696 := dn1 hL_law_695
theorem dL_law_696 : decode cL_law 696 = .ok (.invokevirtual 83, 3) := dk182 hL_law_696 rfl
theorem hL_law_699 : cL_law.data.toList.drop 699 = sL_law_699 := dn3 hL_law_696
theorem dL_law_699 : decode cL_law 699 = .ok (.pop, 1) := dk87 hL_law_699
theorem hL_law_700 : cL_law.data.toList.drop 700 = sL_law_700 := dn1 hL_law_699
theorem dL_law_700 : decode cL_law 700 = .ok (.aload_n 2, 1) := dk44 hL_law_700
theorem hL_law_701 : cL_law.data.toList.drop 701 = sL_law_701 := dn1 hL_law_700
theorem dL_law_701 : decode cL_law 701 = .ok (.invokevirtual 86, 3) := dk182 hL_law_701 rfl
theorem hL_law_704 : cL_law.data.toList.drop 704 = sL_law_704 := dn3 hL_law_701
theorem dL_law_704 : decode cL_law 704 = .ok (.pop, 1) := dk87 hL_law_704
theorem hL_law_705 : cL_law.data.toList.drop 705 = sL_law_705 := dn1 hL_law_704
theorem dL_law_705 : decode cL_law 705 = .ok (.goto 1122, 3) := dk167 hL_law_705 (by decide)
theorem hL_law_708 : cL_law.data.toList.drop 708 = sL_law_708 := dn3 hL_law_705
theorem dL_law_708 : decode cL_law 708 = .ok (.aload_n 1, 1) := dk43 hL_law_708
theorem hL_law_709 : cL_law.data.toList.drop 709 = sL_law_709 := dn1 hL_law_708
theorem dL_law_709 : decode cL_law 709 = .ok (.invokevirtual 87, 3) := dk182 hL_law_709 rfl
theorem hL_law_712 : cL_law.data.toList.drop 712 = sL_law_712 := dn3 hL_law_709
theorem dL_law_712 : decode cL_law 712 = .ok (.pop, 1) := dk87 hL_law_712
theorem hL_law_713 : cL_law.data.toList.drop 713 = sL_law_713 := dn1 hL_law_712
theorem dL_law_713 : decode cL_law 713 = .ok (.aload_n 2, 1) := dk44 hL_law_713
theorem hL_law_714 : cL_law.data.toList.drop 714 = sL_law_714 := dn1 hL_law_713
theorem dL_law_714 : decode cL_law 714 = .ok (.invokevirtual 90, 3) := dk182 hL_law_714 rfl
theorem hL_law_717 : cL_law.data.toList.drop 717 = sL_law_717 := dn3 hL_law_714
theorem dL_law_717 : decode cL_law 717 = .ok (.pop, 1) := dk87 hL_law_717
theorem hL_law_718 : cL_law.data.toList.drop 718 = sL_law_718 := dn1 hL_law_717
theorem dL_law_718 : decode cL_law 718 = .ok (.goto 1109, 3) := dk167 hL_law_718 (by decide)
theorem hL_law_721 : cL_law.data.toList.drop 721 = sL_law_721 := dn3 hL_law_718
theorem dL_law_721 : decode cL_law 721 = .ok (.aload_n 1, 1) := dk43 hL_law_721
theorem hL_law_722 : cL_law.data.toList.drop 722 = sL_law_722 := dn1 hL_law_721
theorem dL_law_722 : decode cL_law 722 = .ok (.aload_n 0, 1) := dk42 hL_law_722
theorem hL_law_723 : cL_law.data.toList.drop 723 = sL_law_723 := dn1 hL_law_722
theorem dL_law_723 : decode cL_law 723 = .ok (.iload 4, 2) := dk21 hL_law_723 rfl
theorem hL_law_725 : cL_law.data.toList.drop 725 = sL_law_725 := dn2 hL_law_723
theorem dL_law_725 : decode cL_law 725 = .ok (.iconst 1, 1) := dk4 hL_law_725
theorem hL_law_726 : cL_law.data.toList.drop 726 = sL_law_726 := dn1 hL_law_725
theorem dL_law_726 : decode cL_law 726 = .ok (.iadd, 1) := dk96 hL_law_726
theorem hL_law_727 : cL_law.data.toList.drop 727 = sL_law_727 := dn1 hL_law_726
theorem dL_law_727 : decode cL_law 727 = .ok (.iaload, 1) := dk46 hL_law_727
theorem hL_law_728 : cL_law.data.toList.drop 728 = sL_law_728 := dn1 hL_law_727
theorem dL_law_728 : decode cL_law 728 = .ok (.invokevirtual 91, 3) := dk182 hL_law_728 rfl
theorem hL_law_731 : cL_law.data.toList.drop 731 = sL_law_731 := dn3 hL_law_728
theorem dL_law_731 : decode cL_law 731 = .ok (.pop, 1) := dk87 hL_law_731
theorem hL_law_732 : cL_law.data.toList.drop 732 = sL_law_732 := dn1 hL_law_731
theorem dL_law_732 : decode cL_law 732 = .ok (.aload_n 2, 1) := dk44 hL_law_732
theorem hL_law_733 : cL_law.data.toList.drop 733 = sL_law_733 := dn1 hL_law_732
theorem dL_law_733 : decode cL_law 733 = .ok (.aload_n 0, 1) := dk42 hL_law_733
theorem hL_law_734 : cL_law.data.toList.drop 734 = sL_law_734 := dn1 hL_law_733
theorem dL_law_734 : decode cL_law 734 = .ok (.iload 4, 2) := dk21 hL_law_734 rfl
theorem hL_law_736 : cL_law.data.toList.drop 736 = sL_law_736 := dn2 hL_law_734
theorem dL_law_736 : decode cL_law 736 = .ok (.iconst 1, 1) := dk4 hL_law_736
theorem hL_law_737 : cL_law.data.toList.drop 737 = sL_law_737 := dn1 hL_law_736
theorem dL_law_737 : decode cL_law 737 = .ok (.iadd, 1) := dk96 hL_law_737
theorem hL_law_738 : cL_law.data.toList.drop 738 = sL_law_738 := dn1 hL_law_737
theorem dL_law_738 : decode cL_law 738 = .ok (.iaload, 1) := dk46 hL_law_738
theorem hL_law_739 : cL_law.data.toList.drop 739 = sL_law_739 := dn1 hL_law_738
theorem dL_law_739 : decode cL_law 739 = .ok (.invokevirtual 94, 3) := dk182 hL_law_739 rfl
theorem hL_law_742 : cL_law.data.toList.drop 742 = sL_law_742 := dn3 hL_law_739
theorem dL_law_742 : decode cL_law 742 = .ok (.pop, 1) := dk87 hL_law_742
theorem hL_law_743 : cL_law.data.toList.drop 743 = sL_law_743 := dn1 hL_law_742
theorem dL_law_743 : decode cL_law 743 = .ok (.goto 1084, 3) := dk167 hL_law_743 (by decide)
theorem hL_law_746 : cL_law.data.toList.drop 746 = sL_law_746 := dn3 hL_law_743
theorem dL_law_746 : decode cL_law 746 = .ok (.aload_n 1, 1) := dk43 hL_law_746
theorem hL_law_747 : cL_law.data.toList.drop 747 = sL_law_747 := dn1 hL_law_746
theorem dL_law_747 : decode cL_law 747 = .ok (.aload_n 0, 1) := dk42 hL_law_747
theorem hL_law_748 : cL_law.data.toList.drop 748 = sL_law_748 := dn1 hL_law_747
theorem dL_law_748 : decode cL_law 748 = .ok (.iload 4, 2) := dk21 hL_law_748 rfl
theorem hL_law_750 : cL_law.data.toList.drop 750 = sL_law_750 := dn2 hL_law_748
theorem dL_law_750 : decode cL_law 750 = .ok (.iconst 1, 1) := dk4 hL_law_750
theorem hL_law_751 : cL_law.data.toList.drop 751 = sL_law_751 := dn1 hL_law_750
theorem dL_law_751 : decode cL_law 751 = .ok (.iadd, 1) := dk96 hL_law_751
theorem hL_law_752 : cL_law.data.toList.drop 752 = sL_law_752 := dn1 hL_law_751
theorem dL_law_752 : decode cL_law 752 = .ok (.iaload, 1) := dk46 hL_law_752
theorem hL_law_753 : cL_law.data.toList.drop 753 = sL_law_753 := dn1 hL_law_752
theorem dL_law_753 : decode cL_law 753 = .ok (.aload_n 0, 1) := dk42 hL_law_753
theorem hL_law_754 : cL_law.data.toList.drop 754 = sL_law_754 := dn1 hL_law_753
theorem dL_law_754 : decode cL_law 754 = .ok (.iload 4, 2) := dk21 hL_law_754 rfl
theorem hL_law_756 : cL_law.data.toList.drop 756 = sL_law_756 := dn2 hL_law_754
theorem dL_law_756 : decode cL_law 756 = .ok (.iconst 2, 1) := dk5 hL_law_756
theorem hL_law_757 : cL_law.data.toList.drop 757 = sL_law_757 := dn1 hL_law_756
theorem dL_law_757 : decode cL_law 757 = .ok (.iadd, 1) := dk96 hL_law_757
theorem hL_law_758 : cL_law.data.toList.drop 758 = sL_law_758 := dn1 hL_law_757
theorem dL_law_758 : decode cL_law 758 = .ok (.iaload, 1) := dk46 hL_law_758
theorem hL_law_759 : cL_law.data.toList.drop 759 = sL_law_759 := dn1 hL_law_758
theorem dL_law_759 : decode cL_law 759 = .ok (.invokevirtual 95, 3) := dk182 hL_law_759 rfl
theorem hL_law_762 : cL_law.data.toList.drop 762 = sL_law_762 := dn3 hL_law_759
theorem dL_law_762 : decode cL_law 762 = .ok (.pop, 1) := dk87 hL_law_762
theorem hL_law_763 : cL_law.data.toList.drop 763 = sL_law_763 := dn1 hL_law_762
theorem dL_law_763 : decode cL_law 763 = .ok (.aload_n 2, 1) := dk44 hL_law_763
theorem hL_law_764 : cL_law.data.toList.drop 764 = sL_law_764 := dn1 hL_law_763
theorem dL_law_764 : decode cL_law 764 = .ok (.aload_n 0, 1) := dk42 hL_law_764
theorem hL_law_765 : cL_law.data.toList.drop 765 = sL_law_765 := dn1 hL_law_764
theorem dL_law_765 : decode cL_law 765 = .ok (.iload 4, 2) := dk21 hL_law_765 rfl
theorem hL_law_767 : cL_law.data.toList.drop 767 = sL_law_767 := dn2 hL_law_765
theorem dL_law_767 : decode cL_law 767 = .ok (.iconst 1, 1) := dk4 hL_law_767
theorem hL_law_768 : cL_law.data.toList.drop 768 = sL_law_768 := dn1 hL_law_767
theorem dL_law_768 : decode cL_law 768 = .ok (.iadd, 1) := dk96 hL_law_768
theorem hL_law_769 : cL_law.data.toList.drop 769 = sL_law_769 := dn1 hL_law_768
theorem dL_law_769 : decode cL_law 769 = .ok (.iaload, 1) := dk46 hL_law_769
theorem hL_law_770 : cL_law.data.toList.drop 770 = sL_law_770 := dn1 hL_law_769
theorem dL_law_770 : decode cL_law 770 = .ok (.aload_n 0, 1) := dk42 hL_law_770
theorem hL_law_771 : cL_law.data.toList.drop 771 = sL_law_771 := dn1 hL_law_770
theorem dL_law_771 : decode cL_law 771 = .ok (.iload 4, 2) := dk21 hL_law_771 rfl
theorem hL_law_773 : cL_law.data.toList.drop 773 = sL_law_773 := dn2 hL_law_771
theorem dL_law_773 : decode cL_law 773 = .ok (.iconst 2, 1) := dk5 hL_law_773
theorem hL_law_774 : cL_law.data.toList.drop 774 = sL_law_774 := dn1 hL_law_773
theorem dL_law_774 : decode cL_law 774 = .ok (.iadd, 1) := dk96 hL_law_774
theorem hL_law_775 : cL_law.data.toList.drop 775 = sL_law_775 := dn1 hL_law_774
theorem dL_law_775 : decode cL_law 775 = .ok (.iaload, 1) := dk46 hL_law_775
theorem hL_law_776 : cL_law.data.toList.drop 776 = sL_law_776 := dn1 hL_law_775
theorem dL_law_776 : decode cL_law 776 = .ok (.invokevirtual 98, 3) := dk182 hL_law_776 rfl
theorem hL_law_779 : cL_law.data.toList.drop 779 = sL_law_779 := dn3 hL_law_776
theorem dL_law_779 : decode cL_law 779 = .ok (.pop, 1) := dk87 hL_law_779
theorem hL_law_780 : cL_law.data.toList.drop 780 = sL_law_780 := dn1 hL_law_779
theorem dL_law_780 : decode cL_law 780 = .ok (.goto 1047, 3) := dk167 hL_law_780 (by decide)
theorem hL_law_783 : cL_law.data.toList.drop 783 = sL_law_783 := dn3 hL_law_780
theorem dL_law_783 : decode cL_law 783 = .ok (.aload_n 1, 1) := dk43 hL_law_783
theorem hL_law_784 : cL_law.data.toList.drop 784 = sL_law_784 := dn1 hL_law_783
theorem dL_law_784 : decode cL_law 784 = .ok (.aload_n 0, 1) := dk42 hL_law_784
theorem hL_law_785 : cL_law.data.toList.drop 785 = sL_law_785 := dn1 hL_law_784
theorem dL_law_785 : decode cL_law 785 = .ok (.iload 4, 2) := dk21 hL_law_785 rfl
theorem hL_law_787 : cL_law.data.toList.drop 787 = sL_law_787 := dn2 hL_law_785
theorem dL_law_787 : decode cL_law 787 = .ok (.iconst 1, 1) := dk4 hL_law_787
theorem hL_law_788 : cL_law.data.toList.drop 788 = sL_law_788 := dn1 hL_law_787
theorem dL_law_788 : decode cL_law 788 = .ok (.iadd, 1) := dk96 hL_law_788
theorem hL_law_789 : cL_law.data.toList.drop 789 = sL_law_789 := dn1 hL_law_788
theorem dL_law_789 : decode cL_law 789 = .ok (.iaload, 1) := dk46 hL_law_789
theorem hL_law_790 : cL_law.data.toList.drop 790 = sL_law_790 := dn1 hL_law_789
theorem dL_law_790 : decode cL_law 790 = .ok (.aload_n 0, 1) := dk42 hL_law_790
theorem hL_law_791 : cL_law.data.toList.drop 791 = sL_law_791 := dn1 hL_law_790
theorem dL_law_791 : decode cL_law 791 = .ok (.iload 4, 2) := dk21 hL_law_791 rfl
theorem hL_law_793 : cL_law.data.toList.drop 793 = sL_law_793 := dn2 hL_law_791
theorem dL_law_793 : decode cL_law 793 = .ok (.iconst 2, 1) := dk5 hL_law_793
theorem hL_law_794 : cL_law.data.toList.drop 794 = sL_law_794 := dn1 hL_law_793
theorem dL_law_794 : decode cL_law 794 = .ok (.iadd, 1) := dk96 hL_law_794
theorem hL_law_795 : cL_law.data.toList.drop 795 = sL_law_795 := dn1 hL_law_794
theorem dL_law_795 : decode cL_law 795 = .ok (.iaload, 1) := dk46 hL_law_795
theorem hL_law_796 : cL_law.data.toList.drop 796 = sL_law_796 := dn1 hL_law_795
theorem dL_law_796 : decode cL_law 796 = .ok (.aload_n 0, 1) := dk42 hL_law_796
theorem hL_law_797 : cL_law.data.toList.drop 797 = sL_law_797 := dn1 hL_law_796
theorem dL_law_797 : decode cL_law 797 = .ok (.iload 4, 2) := dk21 hL_law_797 rfl
theorem hL_law_799 : cL_law.data.toList.drop 799 = sL_law_799 := dn2 hL_law_797
theorem dL_law_799 : decode cL_law 799 = .ok (.iconst 3, 1) := dk6 hL_law_799
theorem hL_law_800 : cL_law.data.toList.drop 800 = sL_law_800 := dn1 hL_law_799
theorem dL_law_800 : decode cL_law 800 = .ok (.iadd, 1) := dk96 hL_law_800
theorem hL_law_801 : cL_law.data.toList.drop 801 = sL_law_801 := dn1 hL_law_800
theorem dL_law_801 : decode cL_law 801 = .ok (.iaload, 1) := dk46 hL_law_801
theorem hL_law_802 : cL_law.data.toList.drop 802 = sL_law_802 := dn1 hL_law_801
theorem dL_law_802 : decode cL_law 802 = .ok (.ifCond .eq 7, 3) := dk153 hL_law_802 (by decide)
theorem hL_law_805 : cL_law.data.toList.drop 805 = sL_law_805 := dn3 hL_law_802
theorem dL_law_805 : decode cL_law 805 = .ok (.iconst 1, 1) := dk4 hL_law_805
theorem hL_law_806 : cL_law.data.toList.drop 806 = sL_law_806 := dn1 hL_law_805
theorem dL_law_806 : decode cL_law 806 = .ok (.goto 4, 3) := dk167 hL_law_806 (by decide)
theorem hL_law_809 : cL_law.data.toList.drop 809 = sL_law_809 := dn3 hL_law_806
theorem dL_law_809 : decode cL_law 809 = .ok (.iconst 0, 1) := dk3 hL_law_809
theorem hL_law_810 : cL_law.data.toList.drop 810 = sL_law_810 := dn1 hL_law_809
theorem dL_law_810 : decode cL_law 810 = .ok (.invokevirtual 99, 3) := dk182 hL_law_810 rfl
theorem hL_law_813 : cL_law.data.toList.drop 813 = sL_law_813 := dn3 hL_law_810
theorem dL_law_813 : decode cL_law 813 = .ok (.pop2, 1) := dk88 hL_law_813
theorem hL_law_814 : cL_law.data.toList.drop 814 = sL_law_814 := dn1 hL_law_813
theorem dL_law_814 : decode cL_law 814 = .ok (.aload_n 2, 1) := dk44 hL_law_814
theorem hL_law_815 : cL_law.data.toList.drop 815 = sL_law_815 := dn1 hL_law_814
theorem dL_law_815 : decode cL_law 815 = .ok (.aload_n 0, 1) := dk42 hL_law_815
theorem hL_law_816 : cL_law.data.toList.drop 816 = sL_law_816 := dn1 hL_law_815
theorem dL_law_816 : decode cL_law 816 = .ok (.iload 4, 2) := dk21 hL_law_816 rfl
theorem hL_law_818 : cL_law.data.toList.drop 818 = sL_law_818 := dn2 hL_law_816
theorem dL_law_818 : decode cL_law 818 = .ok (.iconst 1, 1) := dk4 hL_law_818
theorem hL_law_819 : cL_law.data.toList.drop 819 = sL_law_819 := dn1 hL_law_818
theorem dL_law_819 : decode cL_law 819 = .ok (.iadd, 1) := dk96 hL_law_819
theorem hL_law_820 : cL_law.data.toList.drop 820 = sL_law_820 := dn1 hL_law_819
theorem dL_law_820 : decode cL_law 820 = .ok (.iaload, 1) := dk46 hL_law_820
theorem hL_law_821 : cL_law.data.toList.drop 821 = sL_law_821 := dn1 hL_law_820
theorem dL_law_821 : decode cL_law 821 = .ok (.aload_n 0, 1) := dk42 hL_law_821
theorem hL_law_822 : cL_law.data.toList.drop 822 = sL_law_822 := dn1 hL_law_821
theorem dL_law_822 : decode cL_law 822 = .ok (.iload 4, 2) := dk21 hL_law_822 rfl
theorem hL_law_824 : cL_law.data.toList.drop 824 = sL_law_824 := dn2 hL_law_822
theorem dL_law_824 : decode cL_law 824 = .ok (.iconst 2, 1) := dk5 hL_law_824
theorem hL_law_825 : cL_law.data.toList.drop 825 = sL_law_825 := dn1 hL_law_824
theorem dL_law_825 : decode cL_law 825 = .ok (.iadd, 1) := dk96 hL_law_825
theorem hL_law_826 : cL_law.data.toList.drop 826 = sL_law_826 := dn1 hL_law_825
theorem dL_law_826 : decode cL_law 826 = .ok (.iaload, 1) := dk46 hL_law_826
theorem hL_law_827 : cL_law.data.toList.drop 827 = sL_law_827 := dn1 hL_law_826
theorem dL_law_827 : decode cL_law 827 = .ok (.aload_n 0, 1) := dk42 hL_law_827
theorem hL_law_828 : cL_law.data.toList.drop 828 = sL_law_828 := dn1 hL_law_827
theorem dL_law_828 : decode cL_law 828 = .ok (.iload 4, 2) := dk21 hL_law_828 rfl
theorem hL_law_830 : cL_law.data.toList.drop 830 = sL_law_830 := dn2 hL_law_828
theorem dL_law_830 : decode cL_law 830 = .ok (.iconst 3, 1) := dk6 hL_law_830
theorem hL_law_831 : cL_law.data.toList.drop 831 = sL_law_831 := dn1 hL_law_830
theorem dL_law_831 : decode cL_law 831 = .ok (.iadd, 1) := dk96 hL_law_831
theorem hL_law_832 : cL_law.data.toList.drop 832 = sL_law_832 := dn1 hL_law_831
theorem dL_law_832 : decode cL_law 832 = .ok (.iaload, 1) := dk46 hL_law_832
theorem hL_law_833 : cL_law.data.toList.drop 833 = sL_law_833 := dn1 hL_law_832
theorem dL_law_833 : decode cL_law 833 = .ok (.ifCond .eq 7, 3) := dk153 hL_law_833 (by decide)
theorem hL_law_836 : cL_law.data.toList.drop 836 = sL_law_836 := dn3 hL_law_833
theorem dL_law_836 : decode cL_law 836 = .ok (.iconst 1, 1) := dk4 hL_law_836
theorem hL_law_837 : cL_law.data.toList.drop 837 = sL_law_837 := dn1 hL_law_836
theorem dL_law_837 : decode cL_law 837 = .ok (.goto 4, 3) := dk167 hL_law_837 (by decide)
theorem hL_law_840 : cL_law.data.toList.drop 840 = sL_law_840 := dn3 hL_law_837
theorem dL_law_840 : decode cL_law 840 = .ok (.iconst 0, 1) := dk3 hL_law_840
theorem hL_law_841 : cL_law.data.toList.drop 841 = sL_law_841 := dn1 hL_law_840
theorem dL_law_841 : decode cL_law 841 = .ok (.invokevirtual 103, 3) := dk182 hL_law_841 rfl
theorem hL_law_844 : cL_law.data.toList.drop 844 = sL_law_844 := dn3 hL_law_841
theorem dL_law_844 : decode cL_law 844 = .ok (.pop2, 1) := dk88 hL_law_844
theorem hL_law_845 : cL_law.data.toList.drop 845 = sL_law_845 := dn1 hL_law_844
theorem dL_law_845 : decode cL_law 845 = .ok (.goto 982, 3) := dk167 hL_law_845 (by decide)
theorem hL_law_848 : cL_law.data.toList.drop 848 = sL_law_848 := dn3 hL_law_845
theorem dL_law_848 : decode cL_law 848 = .ok (.aload_n 1, 1) := dk43 hL_law_848
theorem hL_law_849 : cL_law.data.toList.drop 849 = sL_law_849 := dn1 hL_law_848
theorem dL_law_849 : decode cL_law 849 = .ok (.aload_n 0, 1) := dk42 hL_law_849
theorem hL_law_850 : cL_law.data.toList.drop 850 = sL_law_850 := dn1 hL_law_849
theorem dL_law_850 : decode cL_law 850 = .ok (.iload 4, 2) := dk21 hL_law_850 rfl
theorem hL_law_852 : cL_law.data.toList.drop 852 = sL_law_852 := dn2 hL_law_850
theorem dL_law_852 : decode cL_law 852 = .ok (.iconst 1, 1) := dk4 hL_law_852
theorem hL_law_853 : cL_law.data.toList.drop 853 = sL_law_853 := dn1 hL_law_852
theorem dL_law_853 : decode cL_law 853 = .ok (.iadd, 1) := dk96 hL_law_853
theorem hL_law_854 : cL_law.data.toList.drop 854 = sL_law_854 := dn1 hL_law_853
theorem dL_law_854 : decode cL_law 854 = .ok (.iaload, 1) := dk46 hL_law_854
theorem hL_law_855 : cL_law.data.toList.drop 855 = sL_law_855 := dn1 hL_law_854
theorem dL_law_855 : decode cL_law 855 = .ok (.invokevirtual 104, 3) := dk182 hL_law_855 rfl
theorem hL_law_858 : cL_law.data.toList.drop 858 = sL_law_858 := dn3 hL_law_855
theorem dL_law_858 : decode cL_law 858 = .ok (.pop, 1) := dk87 hL_law_858
theorem hL_law_859 : cL_law.data.toList.drop 859 = sL_law_859 := dn1 hL_law_858
theorem dL_law_859 : decode cL_law 859 = .ok (.aload_n 2, 1) := dk44 hL_law_859
theorem hL_law_860 : cL_law.data.toList.drop 860 = sL_law_860 := dn1 hL_law_859
theorem dL_law_860 : decode cL_law 860 = .ok (.aload_n 0, 1) := dk42 hL_law_860
theorem hL_law_861 : cL_law.data.toList.drop 861 = sL_law_861 := dn1 hL_law_860
theorem dL_law_861 : decode cL_law 861 = .ok (.iload 4, 2) := dk21 hL_law_861 rfl
theorem hL_law_863 : cL_law.data.toList.drop 863 = sL_law_863 := dn2 hL_law_861
theorem dL_law_863 : decode cL_law 863 = .ok (.iconst 1, 1) := dk4 hL_law_863
theorem hL_law_864 : cL_law.data.toList.drop 864 = sL_law_864 := dn1 hL_law_863
theorem dL_law_864 : decode cL_law 864 = .ok (.iadd, 1) := dk96 hL_law_864
theorem hL_law_865 : cL_law.data.toList.drop 865 = sL_law_865 := dn1 hL_law_864
theorem dL_law_865 : decode cL_law 865 = .ok (.iaload, 1) := dk46 hL_law_865
theorem hL_law_866 : cL_law.data.toList.drop 866 = sL_law_866 := dn1 hL_law_865
theorem dL_law_866 : decode cL_law 866 = .ok (.invokevirtual 107, 3) := dk182 hL_law_866 rfl
theorem hL_law_869 : cL_law.data.toList.drop 869 = sL_law_869 := dn3 hL_law_866
theorem dL_law_869 : decode cL_law 869 = .ok (.pop, 1) := dk87 hL_law_869
theorem hL_law_870 : cL_law.data.toList.drop 870 = sL_law_870 := dn1 hL_law_869
theorem dL_law_870 : decode cL_law 870 = .ok (.goto 957, 3) := dk167 hL_law_870 (by decide)
theorem hL_law_873 : cL_law.data.toList.drop 873 = sL_law_873 := dn3 hL_law_870
theorem dL_law_873 : decode cL_law 873 = .ok (.aload_n 1, 1) := dk43 hL_law_873
theorem hL_law_874 : cL_law.data.toList.drop 874 = sL_law_874 := dn1 hL_law_873
theorem dL_law_874 : decode cL_law 874 = .ok (.aload_n 0, 1) := dk42 hL_law_874
theorem hL_law_875 : cL_law.data.toList.drop 875 = sL_law_875 := dn1 hL_law_874
theorem dL_law_875 : decode cL_law 875 = .ok (.iload 4, 2) := dk21 hL_law_875 rfl
theorem hL_law_877 : cL_law.data.toList.drop 877 = sL_law_877 := dn2 hL_law_875
theorem dL_law_877 : decode cL_law 877 = .ok (.iconst 1, 1) := dk4 hL_law_877
theorem hL_law_878 : cL_law.data.toList.drop 878 = sL_law_878 := dn1 hL_law_877
theorem dL_law_878 : decode cL_law 878 = .ok (.iadd, 1) := dk96 hL_law_878
theorem hL_law_879 : cL_law.data.toList.drop 879 = sL_law_879 := dn1 hL_law_878
theorem dL_law_879 : decode cL_law 879 = .ok (.iaload, 1) := dk46 hL_law_879
theorem hL_law_880 : cL_law.data.toList.drop 880 = sL_law_880 := dn1 hL_law_879
theorem dL_law_880 : decode cL_law 880 = .ok (.invokevirtual 108, 3) := dk182 hL_law_880 rfl
theorem hL_law_883 : cL_law.data.toList.drop 883 = sL_law_883 := dn3 hL_law_880
theorem dL_law_883 : decode cL_law 883 = .ok (.pop, 1) := dk87 hL_law_883
theorem hL_law_884 : cL_law.data.toList.drop 884 = sL_law_884 := dn1 hL_law_883
theorem dL_law_884 : decode cL_law 884 = .ok (.aload_n 2, 1) := dk44 hL_law_884
theorem hL_law_885 : cL_law.data.toList.drop 885 = sL_law_885 := dn1 hL_law_884
theorem dL_law_885 : decode cL_law 885 = .ok (.aload_n 0, 1) := dk42 hL_law_885
theorem hL_law_886 : cL_law.data.toList.drop 886 = sL_law_886 := dn1 hL_law_885
theorem dL_law_886 : decode cL_law 886 = .ok (.iload 4, 2) := dk21 hL_law_886 rfl
theorem hL_law_888 : cL_law.data.toList.drop 888 = sL_law_888 := dn2 hL_law_886
theorem dL_law_888 : decode cL_law 888 = .ok (.iconst 1, 1) := dk4 hL_law_888
theorem hL_law_889 : cL_law.data.toList.drop 889 = sL_law_889 := dn1 hL_law_888
theorem dL_law_889 : decode cL_law 889 = .ok (.iadd, 1) := dk96 hL_law_889
theorem hL_law_890 : cL_law.data.toList.drop 890 = sL_law_890 := dn1 hL_law_889
theorem dL_law_890 : decode cL_law 890 = .ok (.iaload, 1) := dk46 hL_law_890
theorem hL_law_891 : cL_law.data.toList.drop 891 = sL_law_891 := dn1 hL_law_890
theorem dL_law_891 : decode cL_law 891 = .ok (.invokevirtual 111, 3) := dk182 hL_law_891 rfl
theorem hL_law_894 : cL_law.data.toList.drop 894 = sL_law_894 := dn3 hL_law_891
theorem dL_law_894 : decode cL_law 894 = .ok (.pop, 1) := dk87 hL_law_894
theorem hL_law_895 : cL_law.data.toList.drop 895 = sL_law_895 := dn1 hL_law_894
theorem dL_law_895 : decode cL_law 895 = .ok (.goto 932, 3) := dk167 hL_law_895 (by decide)
theorem hL_law_898 : cL_law.data.toList.drop 898 = sL_law_898 := dn3 hL_law_895
theorem dL_law_898 : decode cL_law 898 = .ok (.aload_n 1, 1) := dk43 hL_law_898
theorem hL_law_899 : cL_law.data.toList.drop 899 = sL_law_899 := dn1 hL_law_898
theorem dL_law_899 : decode cL_law 899 = .ok (.invokevirtual 112, 3) := dk182 hL_law_899 rfl
theorem hL_law_902 : cL_law.data.toList.drop 902 = sL_law_902 := dn3 hL_law_899
theorem dL_law_902 : decode cL_law 902 = .ok (.pop, 1) := dk87 hL_law_902
theorem hL_law_903 : cL_law.data.toList.drop 903 = sL_law_903 := dn1 hL_law_902
theorem dL_law_903 : decode cL_law 903 = .ok (.aload_n 2, 1) := dk44 hL_law_903
theorem hL_law_904 : cL_law.data.toList.drop 904 = sL_law_904 := dn1 hL_law_903
theorem dL_law_904 : decode cL_law 904 = .ok (.invokevirtual 115, 3) := dk182 hL_law_904 rfl
theorem hL_law_907 : cL_law.data.toList.drop 907 = sL_law_907 := dn3 hL_law_904
theorem dL_law_907 : decode cL_law 907 = .ok (.pop, 1) := dk87 hL_law_907
theorem hL_law_908 : cL_law.data.toList.drop 908 = sL_law_908 := dn1 hL_law_907
theorem dL_law_908 : decode cL_law 908 = .ok (.goto 919, 3) := dk167 hL_law_908 (by decide)
theorem hL_law_911 : cL_law.data.toList.drop 911 = sL_law_911 := dn3 hL_law_908
theorem dL_law_911 : decode cL_law 911 = .ok (.aload_n 1, 1) := dk43 hL_law_911
theorem hL_law_912 : cL_law.data.toList.drop 912 = sL_law_912 := dn1 hL_law_911
theorem dL_law_912 : decode cL_law 912 = .ok (.invokevirtual 116, 3) := dk182 hL_law_912 rfl
theorem hL_law_915 : cL_law.data.toList.drop 915 = sL_law_915 := dn3 hL_law_912
theorem dL_law_915 : decode cL_law 915 = .ok (.pop, 1) := dk87 hL_law_915
theorem hL_law_916 : cL_law.data.toList.drop 916 = sL_law_916 := dn1 hL_law_915
theorem dL_law_916 : decode cL_law 916 = .ok (.aload_n 2, 1) := dk44 hL_law_916
theorem hL_law_917 : cL_law.data.toList.drop 917 = sL_law_917 := dn1 hL_law_916
theorem dL_law_917 : decode cL_law 917 = .ok (.invokevirtual 119, 3) := dk182 hL_law_917 rfl
theorem hL_law_920 : cL_law.data.toList.drop 920 = sL_law_920 := dn3 hL_law_917
theorem dL_law_920 : decode cL_law 920 = .ok (.pop, 1) := dk87 hL_law_920
theorem hL_law_921 : cL_law.data.toList.drop 921 = sL_law_921 := dn1 hL_law_920
theorem dL_law_921 : decode cL_law 921 = .ok (.goto 906, 3) := dk167 hL_law_921 (by decide)
theorem hL_law_924 : cL_law.data.toList.drop 924 = sL_law_924 := dn3 hL_law_921
theorem dL_law_924 : decode cL_law 924 = .ok (.aload_n 1, 1) := dk43 hL_law_924
theorem hL_law_925 : cL_law.data.toList.drop 925 = sL_law_925 := dn1 hL_law_924
theorem dL_law_925 : decode cL_law 925 = .ok (.aload_n 0, 1) := dk42 hL_law_925
theorem hL_law_926 : cL_law.data.toList.drop 926 = sL_law_926 := dn1 hL_law_925
theorem dL_law_926 : decode cL_law 926 = .ok (.iload 4, 2) := dk21 hL_law_926 rfl
theorem hL_law_928 : cL_law.data.toList.drop 928 = sL_law_928 := dn2 hL_law_926
theorem dL_law_928 : decode cL_law 928 = .ok (.iconst 1, 1) := dk4 hL_law_928
theorem hL_law_929 : cL_law.data.toList.drop 929 = sL_law_929 := dn1 hL_law_928
theorem dL_law_929 : decode cL_law 929 = .ok (.iadd, 1) := dk96 hL_law_929
theorem hL_law_930 : cL_law.data.toList.drop 930 = sL_law_930 := dn1 hL_law_929
theorem dL_law_930 : decode cL_law 930 = .ok (.iaload, 1) := dk46 hL_law_930
theorem hL_law_931 : cL_law.data.toList.drop 931 = sL_law_931 := dn1 hL_law_930
theorem dL_law_931 : decode cL_law 931 = .ok (.invokevirtual 120, 3) := dk182 hL_law_931 rfl
theorem hL_law_934 : cL_law.data.toList.drop 934 = sL_law_934 := dn3 hL_law_931
theorem dL_law_934 : decode cL_law 934 = .ok (.pop, 1) := dk87 hL_law_934
theorem hL_law_935 : cL_law.data.toList.drop 935 = sL_law_935 := dn1 hL_law_934
theorem dL_law_935 : decode cL_law 935 = .ok (.aload_n 2, 1) := dk44 hL_law_935
theorem hL_law_936 : cL_law.data.toList.drop 936 = sL_law_936 := dn1 hL_law_935
theorem dL_law_936 : decode cL_law 936 = .ok (.aload_n 0, 1) := dk42 hL_law_936
theorem hL_law_937 : cL_law.data.toList.drop 937 = sL_law_937 := dn1 hL_law_936
theorem dL_law_937 : decode cL_law 937 = .ok (.iload 4, 2) := dk21 hL_law_937 rfl
theorem hL_law_939 : cL_law.data.toList.drop 939 = sL_law_939 := dn2 hL_law_937
theorem dL_law_939 : decode cL_law 939 = .ok (.iconst 1, 1) := dk4 hL_law_939
theorem hL_law_940 : cL_law.data.toList.drop 940 = sL_law_940 := dn1 hL_law_939
theorem dL_law_940 : decode cL_law 940 = .ok (.iadd, 1) := dk96 hL_law_940
theorem hL_law_941 : cL_law.data.toList.drop 941 = sL_law_941 := dn1 hL_law_940
theorem dL_law_941 : decode cL_law 941 = .ok (.iaload, 1) := dk46 hL_law_941
theorem hL_law_942 : cL_law.data.toList.drop 942 = sL_law_942 := dn1 hL_law_941
theorem dL_law_942 : decode cL_law 942 = .ok (.invokevirtual 123, 3) := dk182 hL_law_942 rfl
theorem hL_law_945 : cL_law.data.toList.drop 945 = sL_law_945 := dn3 hL_law_942
theorem dL_law_945 : decode cL_law 945 = .ok (.pop, 1) := dk87 hL_law_945
theorem hL_law_946 : cL_law.data.toList.drop 946 = sL_law_946 := dn1 hL_law_945
theorem dL_law_946 : decode cL_law 946 = .ok (.goto 881, 3) := dk167 hL_law_946 (by decide)
theorem hL_law_949 : cL_law.data.toList.drop 949 = sL_law_949 := dn3 hL_law_946
theorem dL_law_949 : decode cL_law 949 = .ok (.aload_n 1, 1) := dk43 hL_law_949
theorem hL_law_950 : cL_law.data.toList.drop 950 = sL_law_950 := dn1 hL_law_949
theorem dL_law_950 : decode cL_law 950 = .ok (.aload_n 0, 1) := dk42 hL_law_950
theorem hL_law_951 : cL_law.data.toList.drop 951 = sL_law_951 := dn1 hL_law_950
theorem dL_law_951 : decode cL_law 951 = .ok (.iload 4, 2) := dk21 hL_law_951 rfl
theorem hL_law_953 : cL_law.data.toList.drop 953 = sL_law_953 := dn2 hL_law_951
theorem dL_law_953 : decode cL_law 953 = .ok (.iconst 1, 1) := dk4 hL_law_953
theorem hL_law_954 : cL_law.data.toList.drop 954 = sL_law_954 := dn1 hL_law_953
theorem dL_law_954 : decode cL_law 954 = .ok (.iadd, 1) := dk96 hL_law_954
theorem hL_law_955 : cL_law.data.toList.drop 955 = sL_law_955 := dn1 hL_law_954
theorem dL_law_955 : decode cL_law 955 = .ok (.iaload, 1) := dk46 hL_law_955
theorem hL_law_956 : cL_law.data.toList.drop 956 = sL_law_956 := dn1 hL_law_955
theorem dL_law_956 : decode cL_law 956 = .ok (.invokevirtual 124, 3) := dk182 hL_law_956 rfl
theorem hL_law_959 : cL_law.data.toList.drop 959 = sL_law_959 := dn3 hL_law_956
theorem dL_law_959 : decode cL_law 959 = .ok (.pop, 1) := dk87 hL_law_959
theorem hL_law_960 : cL_law.data.toList.drop 960 = sL_law_960 := dn1 hL_law_959
theorem dL_law_960 : decode cL_law 960 = .ok (.aload_n 2, 1) := dk44 hL_law_960
theorem hL_law_961 : cL_law.data.toList.drop 961 = sL_law_961 := dn1 hL_law_960
theorem dL_law_961 : decode cL_law 961 = .ok (.aload_n 0, 1) := dk42 hL_law_961
theorem hL_law_962 : cL_law.data.toList.drop 962 = sL_law_962 := dn1 hL_law_961
theorem dL_law_962 : decode cL_law 962 = .ok (.iload 4, 2) := dk21 hL_law_962 rfl
theorem hL_law_964 : cL_law.data.toList.drop 964 = sL_law_964 := dn2 hL_law_962
theorem dL_law_964 : decode cL_law 964 = .ok (.iconst 1, 1) := dk4 hL_law_964
theorem hL_law_965 : cL_law.data.toList.drop 965 = sL_law_965 := dn1 hL_law_964
theorem dL_law_965 : decode cL_law 965 = .ok (.iadd, 1) := dk96 hL_law_965
theorem hL_law_966 : cL_law.data.toList.drop 966 = sL_law_966 := dn1 hL_law_965
theorem dL_law_966 : decode cL_law 966 = .ok (.iaload, 1) := dk46 hL_law_966
theorem hL_law_967 : cL_law.data.toList.drop 967 = sL_law_967 := dn1 hL_law_966
theorem dL_law_967 : decode cL_law 967 = .ok (.invokevirtual 127, 3) := dk182 hL_law_967 rfl
theorem hL_law_970 : cL_law.data.toList.drop 970 = sL_law_970 := dn3 hL_law_967
theorem dL_law_970 : decode cL_law 970 = .ok (.pop, 1) := dk87 hL_law_970
theorem hL_law_971 : cL_law.data.toList.drop 971 = sL_law_971 := dn1 hL_law_970
theorem dL_law_971 : decode cL_law 971 = .ok (.goto 856, 3) := dk167 hL_law_971 (by decide)
theorem hL_law_974 : cL_law.data.toList.drop 974 = sL_law_974 := dn3 hL_law_971
theorem dL_law_974 : decode cL_law 974 = .ok (.aload_n 1, 1) := dk43 hL_law_974
theorem hL_law_975 : cL_law.data.toList.drop 975 = sL_law_975 := dn1 hL_law_974
theorem dL_law_975 : decode cL_law 975 = .ok (.invokevirtual 128, 3) := dk182 hL_law_975 rfl
theorem hL_law_978 : cL_law.data.toList.drop 978 = sL_law_978 := dn3 hL_law_975
theorem dL_law_978 : decode cL_law 978 = .ok (.pop, 1) := dk87 hL_law_978
theorem hL_law_979 : cL_law.data.toList.drop 979 = sL_law_979 := dn1 hL_law_978
theorem dL_law_979 : decode cL_law 979 = .ok (.aload_n 2, 1) := dk44 hL_law_979
theorem hL_law_980 : cL_law.data.toList.drop 980 = sL_law_980 := dn1 hL_law_979
theorem dL_law_980 : decode cL_law 980 = .ok (.invokevirtual 131, 3) := dk182 hL_law_980 rfl
theorem hL_law_983 : cL_law.data.toList.drop 983 = sL_law_983 := dn3 hL_law_980
theorem dL_law_983 : decode cL_law 983 = .ok (.pop, 1) := dk87 hL_law_983
theorem hL_law_984 : cL_law.data.toList.drop 984 = sL_law_984 := dn1 hL_law_983
theorem dL_law_984 : decode cL_law 984 = .ok (.goto 843, 3) := dk167 hL_law_984 (by decide)
theorem hL_law_987 : cL_law.data.toList.drop 987 = sL_law_987 := dn3 hL_law_984
theorem dL_law_987 : decode cL_law 987 = .ok (.aload_n 1, 1) := dk43 hL_law_987
theorem hL_law_988 : cL_law.data.toList.drop 988 = sL_law_988 := dn1 hL_law_987
theorem dL_law_988 : decode cL_law 988 = .ok (.aload_n 0, 1) := dk42 hL_law_988
theorem hL_law_989 : cL_law.data.toList.drop 989 = sL_law_989 := dn1 hL_law_988
theorem dL_law_989 : decode cL_law 989 = .ok (.iload 4, 2) := dk21 hL_law_989 rfl
theorem hL_law_991 : cL_law.data.toList.drop 991 = sL_law_991 := dn2 hL_law_989
theorem dL_law_991 : decode cL_law 991 = .ok (.iconst 1, 1) := dk4 hL_law_991
theorem hL_law_992 : cL_law.data.toList.drop 992 = sL_law_992 := dn1 hL_law_991
theorem dL_law_992 : decode cL_law 992 = .ok (.iadd, 1) := dk96 hL_law_992
theorem hL_law_993 : cL_law.data.toList.drop 993 = sL_law_993 := dn1 hL_law_992
theorem dL_law_993 : decode cL_law 993 = .ok (.iaload, 1) := dk46 hL_law_993
theorem hL_law_994 : cL_law.data.toList.drop 994 = sL_law_994 := dn1 hL_law_993
theorem dL_law_994 : decode cL_law 994 = .ok (.invokevirtual 132, 3) := dk182 hL_law_994 rfl
theorem hL_law_997 : cL_law.data.toList.drop 997 = sL_law_997 := dn3 hL_law_994
theorem dL_law_997 : decode cL_law 997 = .ok (.aload_n 2, 1) := dk44 hL_law_997
theorem hL_law_998 : cL_law.data.toList.drop 998 = sL_law_998 := dn1 hL_law_997
theorem dL_law_998 : decode cL_law 998 = .ok (.aload_n 0, 1) := dk42 hL_law_998
theorem hL_law_999 : cL_law.data.toList.drop 999 = sL_law_999 := dn1 hL_law_998
theorem dL_law_999 : decode cL_law 999 = .ok (.iload 4, 2) := dk21 hL_law_999 rfl
theorem hL_law_1001 : cL_law.data.toList.drop 1001 = sL_law_1001 := dn2 hL_law_999
theorem dL_law_1001 : decode cL_law 1001 = .ok (.iconst 1, 1) := dk4 hL_law_1001
theorem hL_law_1002 : cL_law.data.toList.drop 1002 = sL_law_1002 := dn1 hL_law_1001
theorem dL_law_1002 : decode cL_law 1002 = .ok (.iadd, 1) := dk96 hL_law_1002
theorem hL_law_1003 : cL_law.data.toList.drop 1003 = sL_law_1003 := dn1 hL_law_1002
theorem dL_law_1003 : decode cL_law 1003 = .ok (.iaload, 1) := dk46 hL_law_1003
theorem hL_law_1004 : cL_law.data.toList.drop 1004 = sL_law_1004 := dn1 hL_law_1003
theorem dL_law_1004 : decode cL_law 1004 = .ok (.invokevirtual 135, 3) := dk182 hL_law_1004 rfl
theorem hL_law_1007 : cL_law.data.toList.drop 1007 = sL_law_1007 := dn3 hL_law_1004
theorem dL_law_1007 : decode cL_law 1007 = .ok (.if_icmp .eq 820, 3) := dk159 hL_law_1007 (by decide)
theorem hL_law_1010 : cL_law.data.toList.drop 1010 = sL_law_1010 := dn3 hL_law_1007
theorem dL_law_1010 : decode cL_law 1010 = .ok (.iconst 0, 1) := dk3 hL_law_1010
theorem hL_law_1011 : cL_law.data.toList.drop 1011 = sL_law_1011 := dn1 hL_law_1010
theorem dL_law_1011 : decode cL_law 1011 = .ok (.ireturn, 1) := dk172 hL_law_1011
theorem hL_law_1012 : cL_law.data.toList.drop 1012 = sL_law_1012 := dn1 hL_law_1011
theorem dL_law_1012 : decode cL_law 1012 = .ok (.aload_n 1, 1) := dk43 hL_law_1012
theorem hL_law_1013 : cL_law.data.toList.drop 1013 = sL_law_1013 := dn1 hL_law_1012
theorem dL_law_1013 : decode cL_law 1013 = .ok (.aload_n 0, 1) := dk42 hL_law_1013
theorem hL_law_1014 : cL_law.data.toList.drop 1014 = sL_law_1014 := dn1 hL_law_1013
theorem dL_law_1014 : decode cL_law 1014 = .ok (.iload 4, 2) := dk21 hL_law_1014 rfl
theorem hL_law_1016 : cL_law.data.toList.drop 1016 = sL_law_1016 := dn2 hL_law_1014
theorem dL_law_1016 : decode cL_law 1016 = .ok (.iconst 1, 1) := dk4 hL_law_1016
theorem hL_law_1017 : cL_law.data.toList.drop 1017 = sL_law_1017 := dn1 hL_law_1016
theorem dL_law_1017 : decode cL_law 1017 = .ok (.iadd, 1) := dk96 hL_law_1017
theorem hL_law_1018 : cL_law.data.toList.drop 1018 = sL_law_1018 := dn1 hL_law_1017
theorem dL_law_1018 : decode cL_law 1018 = .ok (.iaload, 1) := dk46 hL_law_1018
theorem hL_law_1019 : cL_law.data.toList.drop 1019 = sL_law_1019 := dn1 hL_law_1018
theorem dL_law_1019 : decode cL_law 1019 = .ok (.invokevirtual 136, 3) := dk182 hL_law_1019 rfl
theorem hL_law_1022 : cL_law.data.toList.drop 1022 = sL_law_1022 := dn3 hL_law_1019
theorem dL_law_1022 : decode cL_law 1022 = .ok (.pop, 1) := dk87 hL_law_1022
theorem hL_law_1023 : cL_law.data.toList.drop 1023 = sL_law_1023 := dn1 hL_law_1022
theorem dL_law_1023 : decode cL_law 1023 = .ok (.aload_n 2, 1) := dk44 hL_law_1023
theorem hL_law_1024 : cL_law.data.toList.drop 1024 = sL_law_1024 := dn1 hL_law_1023
theorem dL_law_1024 : decode cL_law 1024 = .ok (.aload_n 0, 1) := dk42 hL_law_1024
theorem hL_law_1025 : cL_law.data.toList.drop 1025 = sL_law_1025 := dn1 hL_law_1024
theorem dL_law_1025 : decode cL_law 1025 = .ok (.iload 4, 2) := dk21 hL_law_1025 rfl
theorem hL_law_1027 : cL_law.data.toList.drop 1027 = sL_law_1027 := dn2 hL_law_1025
theorem dL_law_1027 : decode cL_law 1027 = .ok (.iconst 1, 1) := dk4 hL_law_1027
theorem hL_law_1028 : cL_law.data.toList.drop 1028 = sL_law_1028 := dn1 hL_law_1027
theorem dL_law_1028 : decode cL_law 1028 = .ok (.iadd, 1) := dk96 hL_law_1028
theorem hL_law_1029 : cL_law.data.toList.drop 1029 = sL_law_1029 := dn1 hL_law_1028
theorem dL_law_1029 : decode cL_law 1029 = .ok (.iaload, 1) := dk46 hL_law_1029
theorem hL_law_1030 : cL_law.data.toList.drop 1030 = sL_law_1030 := dn1 hL_law_1029
theorem dL_law_1030 : decode cL_law 1030 = .ok (.invokevirtual 139, 3) := dk182 hL_law_1030 rfl
theorem hL_law_1033 : cL_law.data.toList.drop 1033 = sL_law_1033 := dn3 hL_law_1030
theorem dL_law_1033 : decode cL_law 1033 = .ok (.pop, 1) := dk87 hL_law_1033
theorem hL_law_1034 : cL_law.data.toList.drop 1034 = sL_law_1034 := dn1 hL_law_1033
theorem dL_law_1034 : decode cL_law 1034 = .ok (.goto 793, 3) := dk167 hL_law_1034 (by decide)
theorem hL_law_1037 : cL_law.data.toList.drop 1037 = sL_law_1037 := dn3 hL_law_1034
theorem dL_law_1037 : decode cL_law 1037 = .ok (.aload_n 1, 1) := dk43 hL_law_1037
theorem hL_law_1038 : cL_law.data.toList.drop 1038 = sL_law_1038 := dn1 hL_law_1037
theorem dL_law_1038 : decode cL_law 1038 = .ok (.aload_n 0, 1) := dk42 hL_law_1038
theorem hL_law_1039 : cL_law.data.toList.drop 1039 = sL_law_1039 := dn1 hL_law_1038
theorem dL_law_1039 : decode cL_law 1039 = .ok (.iload 4, 2) := dk21 hL_law_1039 rfl
theorem hL_law_1041 : cL_law.data.toList.drop 1041 = sL_law_1041 := dn2 hL_law_1039
theorem dL_law_1041 : decode cL_law 1041 = .ok (.iconst 1, 1) := dk4 hL_law_1041
theorem hL_law_1042 : cL_law.data.toList.drop 1042 = sL_law_1042 := dn1 hL_law_1041
theorem dL_law_1042 : decode cL_law 1042 = .ok (.iadd, 1) := dk96 hL_law_1042
theorem hL_law_1043 : cL_law.data.toList.drop 1043 = sL_law_1043 := dn1 hL_law_1042
theorem dL_law_1043 : decode cL_law 1043 = .ok (.iaload, 1) := dk46 hL_law_1043
theorem hL_law_1044 : cL_law.data.toList.drop 1044 = sL_law_1044 := dn1 hL_law_1043
theorem dL_law_1044 : decode cL_law 1044 = .ok (.aload_n 0, 1) := dk42 hL_law_1044
theorem hL_law_1045 : cL_law.data.toList.drop 1045 = sL_law_1045 := dn1 hL_law_1044
theorem dL_law_1045 : decode cL_law 1045 = .ok (.iload 4, 2) := dk21 hL_law_1045 rfl
theorem hL_law_1047 : cL_law.data.toList.drop 1047 = sL_law_1047 := dn2 hL_law_1045
theorem dL_law_1047 : decode cL_law 1047 = .ok (.iconst 2, 1) := dk5 hL_law_1047
theorem hL_law_1048 : cL_law.data.toList.drop 1048 = sL_law_1048 := dn1 hL_law_1047
theorem dL_law_1048 : decode cL_law 1048 = .ok (.iadd, 1) := dk96 hL_law_1048
theorem hL_law_1049 : cL_law.data.toList.drop 1049 = sL_law_1049 := dn1 hL_law_1048
theorem dL_law_1049 : decode cL_law 1049 = .ok (.iaload, 1) := dk46 hL_law_1049
theorem hL_law_1050 : cL_law.data.toList.drop 1050 = sL_law_1050 := dn1 hL_law_1049
theorem dL_law_1050 : decode cL_law 1050 = .ok (.ifCond .eq 7, 3) := dk153 hL_law_1050 (by decide)
theorem hL_law_1053 : cL_law.data.toList.drop 1053 = sL_law_1053 := dn3 hL_law_1050
theorem dL_law_1053 : decode cL_law 1053 = .ok (.iconst 1, 1) := dk4 hL_law_1053
theorem hL_law_1054 : cL_law.data.toList.drop 1054 = sL_law_1054 := dn1 hL_law_1053
theorem dL_law_1054 : decode cL_law 1054 = .ok (.goto 4, 3) := dk167 hL_law_1054 (by decide)
theorem hL_law_1057 : cL_law.data.toList.drop 1057 = sL_law_1057 := dn3 hL_law_1054
theorem dL_law_1057 : decode cL_law 1057 = .ok (.iconst 0, 1) := dk3 hL_law_1057
theorem hL_law_1058 : cL_law.data.toList.drop 1058 = sL_law_1058 := dn1 hL_law_1057
theorem dL_law_1058 : decode cL_law 1058 = .ok (.invokevirtual 140, 3) := dk182 hL_law_1058 rfl
theorem hL_law_1061 : cL_law.data.toList.drop 1061 = sL_law_1061 := dn3 hL_law_1058
theorem dL_law_1061 : decode cL_law 1061 = .ok (.pop2, 1) := dk88 hL_law_1061
theorem hL_law_1062 : cL_law.data.toList.drop 1062 = sL_law_1062 := dn1 hL_law_1061
theorem dL_law_1062 : decode cL_law 1062 = .ok (.aload_n 2, 1) := dk44 hL_law_1062
theorem hL_law_1063 : cL_law.data.toList.drop 1063 = sL_law_1063 := dn1 hL_law_1062
theorem dL_law_1063 : decode cL_law 1063 = .ok (.aload_n 0, 1) := dk42 hL_law_1063
theorem hL_law_1064 : cL_law.data.toList.drop 1064 = sL_law_1064 := dn1 hL_law_1063
theorem dL_law_1064 : decode cL_law 1064 = .ok (.iload 4, 2) := dk21 hL_law_1064 rfl
theorem hL_law_1066 : cL_law.data.toList.drop 1066 = sL_law_1066 := dn2 hL_law_1064
theorem dL_law_1066 : decode cL_law 1066 = .ok (.iconst 1, 1) := dk4 hL_law_1066
theorem hL_law_1067 : cL_law.data.toList.drop 1067 = sL_law_1067 := dn1 hL_law_1066
theorem dL_law_1067 : decode cL_law 1067 = .ok (.iadd, 1) := dk96 hL_law_1067
theorem hL_law_1068 : cL_law.data.toList.drop 1068 = sL_law_1068 := dn1 hL_law_1067
theorem dL_law_1068 : decode cL_law 1068 = .ok (.iaload, 1) := dk46 hL_law_1068
theorem hL_law_1069 : cL_law.data.toList.drop 1069 = sL_law_1069 := dn1 hL_law_1068
theorem dL_law_1069 : decode cL_law 1069 = .ok (.aload_n 0, 1) := dk42 hL_law_1069
theorem hL_law_1070 : cL_law.data.toList.drop 1070 = sL_law_1070 := dn1 hL_law_1069
theorem dL_law_1070 : decode cL_law 1070 = .ok (.iload 4, 2) := dk21 hL_law_1070 rfl
theorem hL_law_1072 : cL_law.data.toList.drop 1072 = sL_law_1072 := dn2 hL_law_1070
theorem dL_law_1072 : decode cL_law 1072 = .ok (.iconst 2, 1) := dk5 hL_law_1072
theorem hL_law_1073 : cL_law.data.toList.drop 1073 = sL_law_1073 := dn1 hL_law_1072
theorem dL_law_1073 : decode cL_law 1073 = .ok (.iadd, 1) := dk96 hL_law_1073
theorem hL_law_1074 : cL_law.data.toList.drop 1074 = sL_law_1074 := dn1 hL_law_1073
theorem dL_law_1074 : decode cL_law 1074 = .ok (.iaload, 1) := dk46 hL_law_1074
theorem hL_law_1075 : cL_law.data.toList.drop 1075 = sL_law_1075 := dn1 hL_law_1074
theorem dL_law_1075 : decode cL_law 1075 = .ok (.ifCond .eq 7, 3) := dk153 hL_law_1075 (by decide)
theorem hL_law_1078 : cL_law.data.toList.drop 1078 = sL_law_1078 := dn3 hL_law_1075
theorem dL_law_1078 : decode cL_law 1078 = .ok (.iconst 1, 1) := dk4 hL_law_1078
theorem hL_law_1079 : cL_law.data.toList.drop 1079 = sL_law_1079 := dn1 hL_law_1078
theorem dL_law_1079 : decode cL_law 1079 = .ok (.goto 4, 3) := dk167 hL_law_1079 (by decide)
theorem hL_law_1082 : cL_law.data.toList.drop 1082 = sL_law_1082 := dn3 hL_law_1079
theorem dL_law_1082 : decode cL_law 1082 = .ok (.iconst 0, 1) := dk3 hL_law_1082
theorem hL_law_1083 : cL_law.data.toList.drop 1083 = sL_law_1083 := dn1 hL_law_1082
theorem dL_law_1083 : decode cL_law 1083 = .ok (.invokevirtual 143, 3) := dk182 hL_law_1083 rfl
theorem hL_law_1086 : cL_law.data.toList.drop 1086 = sL_law_1086 := dn3 hL_law_1083
theorem dL_law_1086 : decode cL_law 1086 = .ok (.pop2, 1) := dk88 hL_law_1086
theorem hL_law_1087 : cL_law.data.toList.drop 1087 = sL_law_1087 := dn1 hL_law_1086
theorem dL_law_1087 : decode cL_law 1087 = .ok (.goto 740, 3) := dk167 hL_law_1087 (by decide)
theorem hL_law_1090 : cL_law.data.toList.drop 1090 = sL_law_1090 := dn3 hL_law_1087
theorem dL_law_1090 : decode cL_law 1090 = .ok (.aload_n 1, 1) := dk43 hL_law_1090
theorem hL_law_1091 : cL_law.data.toList.drop 1091 = sL_law_1091 := dn1 hL_law_1090
theorem dL_law_1091 : decode cL_law 1091 = .ok (.aload_n 0, 1) := dk42 hL_law_1091
theorem hL_law_1092 : cL_law.data.toList.drop 1092 = sL_law_1092 := dn1 hL_law_1091
theorem dL_law_1092 : decode cL_law 1092 = .ok (.iload 4, 2) := dk21 hL_law_1092 rfl
theorem hL_law_1094 : cL_law.data.toList.drop 1094 = sL_law_1094 := dn2 hL_law_1092
theorem dL_law_1094 : decode cL_law 1094 = .ok (.iconst 1, 1) := dk4 hL_law_1094
theorem hL_law_1095 : cL_law.data.toList.drop 1095 = sL_law_1095 := dn1 hL_law_1094
theorem dL_law_1095 : decode cL_law 1095 = .ok (.iadd, 1) := dk96 hL_law_1095
theorem hL_law_1096 : cL_law.data.toList.drop 1096 = sL_law_1096 := dn1 hL_law_1095
theorem dL_law_1096 : decode cL_law 1096 = .ok (.iaload, 1) := dk46 hL_law_1096
theorem hL_law_1097 : cL_law.data.toList.drop 1097 = sL_law_1097 := dn1 hL_law_1096
theorem dL_law_1097 : decode cL_law 1097 = .ok (.invokevirtual 144, 3) := dk182 hL_law_1097 rfl
theorem hL_law_1100 : cL_law.data.toList.drop 1100 = sL_law_1100 := dn3 hL_law_1097
theorem dL_law_1100 : decode cL_law 1100 = .ok (.pop, 1) := dk87 hL_law_1100
theorem hL_law_1101 : cL_law.data.toList.drop 1101 = sL_law_1101 := dn1 hL_law_1100
theorem dL_law_1101 : decode cL_law 1101 = .ok (.aload_n 2, 1) := dk44 hL_law_1101
theorem hL_law_1102 : cL_law.data.toList.drop 1102 = sL_law_1102 := dn1 hL_law_1101
theorem dL_law_1102 : decode cL_law 1102 = .ok (.aload_n 0, 1) := dk42 hL_law_1102
theorem hL_law_1103 : cL_law.data.toList.drop 1103 = sL_law_1103 := dn1 hL_law_1102
theorem dL_law_1103 : decode cL_law 1103 = .ok (.iload 4, 2) := dk21 hL_law_1103 rfl
theorem hL_law_1105 : cL_law.data.toList.drop 1105 = sL_law_1105 := dn2 hL_law_1103
theorem dL_law_1105 : decode cL_law 1105 = .ok (.iconst 1, 1) := dk4 hL_law_1105
theorem hL_law_1106 : cL_law.data.toList.drop 1106 = sL_law_1106 := dn1 hL_law_1105
theorem dL_law_1106 : decode cL_law 1106 = .ok (.iadd, 1) := dk96 hL_law_1106
theorem hL_law_1107 : cL_law.data.toList.drop 1107 = sL_law_1107 := dn1 hL_law_1106
theorem dL_law_1107 : decode cL_law 1107 = .ok (.iaload, 1) := dk46 hL_law_1107
theorem hL_law_1108 : cL_law.data.toList.drop 1108 = sL_law_1108 := dn1 hL_law_1107
theorem dL_law_1108 : decode cL_law 1108 = .ok (.invokevirtual 147, 3) := dk182 hL_law_1108 rfl
theorem hL_law_1111 : cL_law.data.toList.drop 1111 = sL_law_1111 := dn3 hL_law_1108
theorem dL_law_1111 : decode cL_law 1111 = .ok (.pop, 1) := dk87 hL_law_1111
theorem hL_law_1112 : cL_law.data.toList.drop 1112 = sL_law_1112 := dn1 hL_law_1111
theorem dL_law_1112 : decode cL_law 1112 = .ok (.goto 715, 3) := dk167 hL_law_1112 (by decide)
theorem hL_law_1115 : cL_law.data.toList.drop 1115 = sL_law_1115 := dn3 hL_law_1112
theorem dL_law_1115 : decode cL_law 1115 = .ok (.aload_n 1, 1) := dk43 hL_law_1115
theorem hL_law_1116 : cL_law.data.toList.drop 1116 = sL_law_1116 := dn1 hL_law_1115
theorem dL_law_1116 : decode cL_law 1116 = .ok (.aload_n 0, 1) := dk42 hL_law_1116
theorem hL_law_1117 : cL_law.data.toList.drop 1117 = sL_law_1117 := dn1 hL_law_1116
theorem dL_law_1117 : decode cL_law 1117 = .ok (.iload 4, 2) := dk21 hL_law_1117 rfl
theorem hL_law_1119 : cL_law.data.toList.drop 1119 = sL_law_1119 := dn2 hL_law_1117
theorem dL_law_1119 : decode cL_law 1119 = .ok (.iconst 1, 1) := dk4 hL_law_1119
theorem hL_law_1120 : cL_law.data.toList.drop 1120 = sL_law_1120 := dn1 hL_law_1119
theorem dL_law_1120 : decode cL_law 1120 = .ok (.iadd, 1) := dk96 hL_law_1120
theorem hL_law_1121 : cL_law.data.toList.drop 1121 = sL_law_1121 := dn1 hL_law_1120
theorem dL_law_1121 : decode cL_law 1121 = .ok (.iaload, 1) := dk46 hL_law_1121
theorem hL_law_1122 : cL_law.data.toList.drop 1122 = sL_law_1122 := dn1 hL_law_1121
theorem dL_law_1122 : decode cL_law 1122 = .ok (.aload_n 0, 1) := dk42 hL_law_1122
theorem hL_law_1123 : cL_law.data.toList.drop 1123 = sL_law_1123 := dn1 hL_law_1122
theorem dL_law_1123 : decode cL_law 1123 = .ok (.iload 4, 2) := dk21 hL_law_1123 rfl
theorem hL_law_1125 : cL_law.data.toList.drop 1125 = sL_law_1125 := dn2 hL_law_1123
theorem dL_law_1125 : decode cL_law 1125 = .ok (.iconst 2, 1) := dk5 hL_law_1125
theorem hL_law_1126 : cL_law.data.toList.drop 1126 = sL_law_1126 := dn1 hL_law_1125
theorem dL_law_1126 : decode cL_law 1126 = .ok (.iadd, 1) := dk96 hL_law_1126
theorem hL_law_1127 : cL_law.data.toList.drop 1127 = sL_law_1127 := dn1 hL_law_1126
theorem dL_law_1127 : decode cL_law 1127 = .ok (.iaload, 1) := dk46 hL_law_1127
theorem hL_law_1128 : cL_law.data.toList.drop 1128 = sL_law_1128 := dn1 hL_law_1127
theorem dL_law_1128 : decode cL_law 1128 = .ok (.ifCond .eq 7, 3) := dk153 hL_law_1128 (by decide)
theorem hL_law_1131 : cL_law.data.toList.drop 1131 = sL_law_1131 := dn3 hL_law_1128
theorem dL_law_1131 : decode cL_law 1131 = .ok (.iconst 1, 1) := dk4 hL_law_1131
theorem hL_law_1132 : cL_law.data.toList.drop 1132 = sL_law_1132 := dn1 hL_law_1131
theorem dL_law_1132 : decode cL_law 1132 = .ok (.goto 4, 3) := dk167 hL_law_1132 (by decide)
theorem hL_law_1135 : cL_law.data.toList.drop 1135 = sL_law_1135 := dn3 hL_law_1132
theorem dL_law_1135 : decode cL_law 1135 = .ok (.iconst 0, 1) := dk3 hL_law_1135
theorem hL_law_1136 : cL_law.data.toList.drop 1136 = sL_law_1136 := dn1 hL_law_1135
theorem dL_law_1136 : decode cL_law 1136 = .ok (.invokevirtual 148, 3) := dk182 hL_law_1136 rfl
theorem hL_law_1139 : cL_law.data.toList.drop 1139 = sL_law_1139 := dn3 hL_law_1136
theorem dL_law_1139 : decode cL_law 1139 = .ok (.pop2, 1) := dk88 hL_law_1139
theorem hL_law_1140 : cL_law.data.toList.drop 1140 = sL_law_1140 := dn1 hL_law_1139
theorem dL_law_1140 : decode cL_law 1140 = .ok (.aload_n 2, 1) := dk44 hL_law_1140
theorem hL_law_1141 : cL_law.data.toList.drop 1141 = sL_law_1141 := dn1 hL_law_1140
theorem dL_law_1141 : decode cL_law 1141 = .ok (.aload_n 0, 1) := dk42 hL_law_1141
theorem hL_law_1142 : cL_law.data.toList.drop 1142 = sL_law_1142 := dn1 hL_law_1141
theorem dL_law_1142 : decode cL_law 1142 = .ok (.iload 4, 2) := dk21 hL_law_1142 rfl
theorem hL_law_1144 : cL_law.data.toList.drop 1144 = sL_law_1144 := dn2 hL_law_1142
theorem dL_law_1144 : decode cL_law 1144 = .ok (.iconst 1, 1) := dk4 hL_law_1144
theorem hL_law_1145 : cL_law.data.toList.drop 1145 = sL_law_1145 := dn1 hL_law_1144
theorem dL_law_1145 : decode cL_law 1145 = .ok (.iadd, 1) := dk96 hL_law_1145
theorem hL_law_1146 : cL_law.data.toList.drop 1146 = sL_law_1146 := dn1 hL_law_1145
theorem dL_law_1146 : decode cL_law 1146 = .ok (.iaload, 1) := dk46 hL_law_1146
theorem hL_law_1147 : cL_law.data.toList.drop 1147 = sL_law_1147 := dn1 hL_law_1146
theorem dL_law_1147 : decode cL_law 1147 = .ok (.aload_n 0, 1) := dk42 hL_law_1147
theorem hL_law_1148 : cL_law.data.toList.drop 1148 = sL_law_1148 := dn1 hL_law_1147
theorem dL_law_1148 : decode cL_law 1148 = .ok (.iload 4, 2) := dk21 hL_law_1148 rfl
theorem hL_law_1150 : cL_law.data.toList.drop 1150 = sL_law_1150 := dn2 hL_law_1148
theorem dL_law_1150 : decode cL_law 1150 = .ok (.iconst 2, 1) := dk5 hL_law_1150
theorem hL_law_1151 : cL_law.data.toList.drop 1151 = sL_law_1151 := dn1 hL_law_1150
theorem dL_law_1151 : decode cL_law 1151 = .ok (.iadd, 1) := dk96 hL_law_1151
theorem hL_law_1152 : cL_law.data.toList.drop 1152 = sL_law_1152 := dn1 hL_law_1151
theorem dL_law_1152 : decode cL_law 1152 = .ok (.iaload, 1) := dk46 hL_law_1152
theorem hL_law_1153 : cL_law.data.toList.drop 1153 = sL_law_1153 := dn1 hL_law_1152
theorem dL_law_1153 : decode cL_law 1153 = .ok (.ifCond .eq 7, 3) := dk153 hL_law_1153 (by decide)
theorem hL_law_1156 : cL_law.data.toList.drop 1156 = sL_law_1156 := dn3 hL_law_1153
theorem dL_law_1156 : decode cL_law 1156 = .ok (.iconst 1, 1) := dk4 hL_law_1156
theorem hL_law_1157 : cL_law.data.toList.drop 1157 = sL_law_1157 := dn1 hL_law_1156
theorem dL_law_1157 : decode cL_law 1157 = .ok (.goto 4, 3) := dk167 hL_law_1157 (by decide)
theorem hL_law_1160 : cL_law.data.toList.drop 1160 = sL_law_1160 := dn3 hL_law_1157
theorem dL_law_1160 : decode cL_law 1160 = .ok (.iconst 0, 1) := dk3 hL_law_1160
theorem hL_law_1161 : cL_law.data.toList.drop 1161 = sL_law_1161 := dn1 hL_law_1160
theorem dL_law_1161 : decode cL_law 1161 = .ok (.invokevirtual 151, 3) := dk182 hL_law_1161 rfl
theorem hL_law_1164 : cL_law.data.toList.drop 1164 = sL_law_1164 := dn3 hL_law_1161
theorem dL_law_1164 : decode cL_law 1164 = .ok (.pop2, 1) := dk88 hL_law_1164
theorem hL_law_1165 : cL_law.data.toList.drop 1165 = sL_law_1165 := dn1 hL_law_1164
theorem dL_law_1165 : decode cL_law 1165 = .ok (.goto 662, 3) := dk167 hL_law_1165 (by decide)
theorem hL_law_1168 : cL_law.data.toList.drop 1168 = sL_law_1168 := dn3 hL_law_1165
theorem dL_law_1168 : decode cL_law 1168 = .ok (.aload_n 1, 1) := dk43 hL_law_1168
theorem hL_law_1169 : cL_law.data.toList.drop 1169 = sL_law_1169 := dn1 hL_law_1168
theorem dL_law_1169 : decode cL_law 1169 = .ok (.invokevirtual 152, 3) := dk182 hL_law_1169 rfl
theorem hL_law_1172 : cL_law.data.toList.drop 1172 = sL_law_1172 := dn3 hL_law_1169
theorem dL_law_1172 : decode cL_law 1172 = .ok (.pop, 1) := dk87 hL_law_1172
theorem hL_law_1173 : cL_law.data.toList.drop 1173 = sL_law_1173 := dn1 hL_law_1172
theorem dL_law_1173 : decode cL_law 1173 = .ok (.aload_n 2, 1) := dk44 hL_law_1173
theorem hL_law_1174 : cL_law.data.toList.drop 1174 = sL_law_1174 := dn1 hL_law_1173
theorem dL_law_1174 : decode cL_law 1174 = .ok (.invokevirtual 155, 3) := dk182 hL_law_1174 rfl
theorem hL_law_1177 : cL_law.data.toList.drop 1177 = sL_law_1177 := dn3 hL_law_1174
theorem dL_law_1177 : decode cL_law 1177 = .ok (.pop, 1) := dk87 hL_law_1177
theorem hL_law_1178 : cL_law.data.toList.drop 1178 = sL_law_1178 := dn1 hL_law_1177
theorem dL_law_1178 : decode cL_law 1178 = .ok (.goto 649, 3) := dk167 hL_law_1178 (by decide)
theorem hL_law_1181 : cL_law.data.toList.drop 1181 = sL_law_1181 := dn3 hL_law_1178
theorem dL_law_1181 : decode cL_law 1181 = .ok (.aload_n 1, 1) := dk43 hL_law_1181
theorem hL_law_1182 : cL_law.data.toList.drop 1182 = sL_law_1182 := dn1 hL_law_1181
theorem dL_law_1182 : decode cL_law 1182 = .ok (.aload_n 0, 1) := dk42 hL_law_1182
theorem hL_law_1183 : cL_law.data.toList.drop 1183 = sL_law_1183 := dn1 hL_law_1182
theorem dL_law_1183 : decode cL_law 1183 = .ok (.iload 4, 2) := dk21 hL_law_1183 rfl
theorem hL_law_1185 : cL_law.data.toList.drop 1185 = sL_law_1185 := dn2 hL_law_1183
theorem dL_law_1185 : decode cL_law 1185 = .ok (.iconst 1, 1) := dk4 hL_law_1185
theorem hL_law_1186 : cL_law.data.toList.drop 1186 = sL_law_1186 := dn1 hL_law_1185
theorem dL_law_1186 : decode cL_law 1186 = .ok (.iadd, 1) := dk96 hL_law_1186
theorem hL_law_1187 : cL_law.data.toList.drop 1187 = sL_law_1187 := dn1 hL_law_1186
theorem dL_law_1187 : decode cL_law 1187 = .ok (.iaload, 1) := dk46 hL_law_1187
theorem hL_law_1188 : cL_law.data.toList.drop 1188 = sL_law_1188 := dn1 hL_law_1187
theorem dL_law_1188 : decode cL_law 1188 = .ok (.invokevirtual 156, 3) := dk182 hL_law_1188 rfl
theorem hL_law_1191 : cL_law.data.toList.drop 1191 = sL_law_1191 := dn3 hL_law_1188
theorem dL_law_1191 : decode cL_law 1191 = .ok (.pop, 1) := dk87 hL_law_1191
theorem hL_law_1192 : cL_law.data.toList.drop 1192 = sL_law_1192 := dn1 hL_law_1191
theorem dL_law_1192 : decode cL_law 1192 = .ok (.aload_n 2, 1) := dk44 hL_law_1192
theorem hL_law_1193 : cL_law.data.toList.drop 1193 = sL_law_1193 := dn1 hL_law_1192
theorem dL_law_1193 : decode cL_law 1193 = .ok (.aload_n 0, 1) := dk42 hL_law_1193
theorem hL_law_1194 : cL_law.data.toList.drop 1194 = sL_law_1194 := dn1 hL_law_1193
theorem dL_law_1194 : decode cL_law 1194 = .ok (.iload 4, 2) := dk21 hL_law_1194 rfl
theorem hL_law_1196 : cL_law.data.toList.drop 1196 = sL_law_1196 := dn2 hL_law_1194
theorem dL_law_1196 : decode cL_law 1196 = .ok (.iconst 1, 1) := dk4 hL_law_1196
theorem hL_law_1197 : cL_law.data.toList.drop 1197 = sL_law_1197 := dn1 hL_law_1196
theorem dL_law_1197 : decode cL_law 1197 = .ok (.iadd, 1) := dk96 hL_law_1197
theorem hL_law_1198 : cL_law.data.toList.drop 1198 = sL_law_1198 := dn1 hL_law_1197
theorem dL_law_1198 : decode cL_law 1198 = .ok (.iaload, 1) := dk46 hL_law_1198
theorem hL_law_1199 : cL_law.data.toList.drop 1199 = sL_law_1199 := dn1 hL_law_1198
theorem dL_law_1199 : decode cL_law 1199 = .ok (.invokevirtual 159, 3) := dk182 hL_law_1199 rfl
theorem hL_law_1202 : cL_law.data.toList.drop 1202 = sL_law_1202 := dn3 hL_law_1199
theorem dL_law_1202 : decode cL_law 1202 = .ok (.pop, 1) := dk87 hL_law_1202
theorem hL_law_1203 : cL_law.data.toList.drop 1203 = sL_law_1203 := dn1 hL_law_1202
theorem dL_law_1203 : decode cL_law 1203 = .ok (.goto 624, 3) := dk167 hL_law_1203 (by decide)
theorem hL_law_1206 : cL_law.data.toList.drop 1206 = sL_law_1206 := dn3 hL_law_1203
theorem dL_law_1206 : decode cL_law 1206 = .ok (.aload_n 1, 1) := dk43 hL_law_1206
theorem hL_law_1207 : cL_law.data.toList.drop 1207 = sL_law_1207 := dn1 hL_law_1206
theorem dL_law_1207 : decode cL_law 1207 = .ok (.invokevirtual 160, 3) := dk182 hL_law_1207 rfl
theorem hL_law_1210 : cL_law.data.toList.drop 1210 = sL_law_1210 := dn3 hL_law_1207
theorem dL_law_1210 : decode cL_law 1210 = .ok (.pop, 1) := dk87 hL_law_1210
theorem hL_law_1211 : cL_law.data.toList.drop 1211 = sL_law_1211 := dn1 hL_law_1210
theorem dL_law_1211 : decode cL_law 1211 = .ok (.aload_n 2, 1) := dk44 hL_law_1211
theorem hL_law_1212 : cL_law.data.toList.drop 1212 = sL_law_1212 := dn1 hL_law_1211
theorem dL_law_1212 : decode cL_law 1212 = .ok (.invokevirtual 163, 3) := dk182 hL_law_1212 rfl
theorem hL_law_1215 : cL_law.data.toList.drop 1215 = sL_law_1215 := dn3 hL_law_1212
theorem dL_law_1215 : decode cL_law 1215 = .ok (.pop, 1) := dk87 hL_law_1215
theorem hL_law_1216 : cL_law.data.toList.drop 1216 = sL_law_1216 := dn1 hL_law_1215
theorem dL_law_1216 : decode cL_law 1216 = .ok (.goto 611, 3) := dk167 hL_law_1216 (by decide)
theorem hL_law_1219 : cL_law.data.toList.drop 1219 = sL_law_1219 := dn3 hL_law_1216
theorem dL_law_1219 : decode cL_law 1219 = .ok (.aload_n 1, 1) := dk43 hL_law_1219
theorem hL_law_1220 : cL_law.data.toList.drop 1220 = sL_law_1220 := dn1 hL_law_1219
theorem dL_law_1220 : decode cL_law 1220 = .ok (.invokevirtual 164, 3) := dk182 hL_law_1220 rfl
theorem hL_law_1223 : cL_law.data.toList.drop 1223 = sL_law_1223 := dn3 hL_law_1220
theorem dL_law_1223 : decode cL_law 1223 = .ok (.pop, 1) := dk87 hL_law_1223
theorem hL_law_1224 : cL_law.data.toList.drop 1224 = sL_law_1224 := dn1 hL_law_1223
theorem dL_law_1224 : decode cL_law 1224 = .ok (.aload_n 2, 1) := dk44 hL_law_1224
theorem hL_law_1225 : cL_law.data.toList.drop 1225 = sL_law_1225 := dn1 hL_law_1224
theorem dL_law_1225 : decode cL_law 1225 = .ok (.invokevirtual 167, 3) := dk182 hL_law_1225 rfl
theorem hL_law_1228 : cL_law.data.toList.drop 1228 = sL_law_1228 := dn3 hL_law_1225
theorem dL_law_1228 : decode cL_law 1228 = .ok (.pop, 1) := dk87 hL_law_1228
theorem hL_law_1229 : cL_law.data.toList.drop 1229 = sL_law_1229 := dn1 hL_law_1228
theorem dL_law_1229 : decode cL_law 1229 = .ok (.goto 598, 3) := dk167 hL_law_1229 (by decide)
theorem hL_law_1232 : cL_law.data.toList.drop 1232 = sL_law_1232 := dn3 hL_law_1229
theorem dL_law_1232 : decode cL_law 1232 = .ok (.aload_n 1, 1) := dk43 hL_law_1232
theorem hL_law_1233 : cL_law.data.toList.drop 1233 = sL_law_1233 := dn1 hL_law_1232
theorem dL_law_1233 : decode cL_law 1233 = .ok (.aload_n 0, 1) := dk42 hL_law_1233
theorem hL_law_1234 : cL_law.data.toList.drop 1234 = sL_law_1234 := dn1 hL_law_1233
theorem dL_law_1234 : decode cL_law 1234 = .ok (.iload 4, 2) := dk21 hL_law_1234 rfl
theorem hL_law_1236 : cL_law.data.toList.drop 1236 = sL_law_1236 := dn2 hL_law_1234
theorem dL_law_1236 : decode cL_law 1236 = .ok (.iconst 1, 1) := dk4 hL_law_1236
theorem hL_law_1237 : cL_law.data.toList.drop 1237 = sL_law_1237 := dn1 hL_law_1236
theorem dL_law_1237 : decode cL_law 1237 = .ok (.iadd, 1) := dk96 hL_law_1237
theorem hL_law_1238 : cL_law.data.toList.drop 1238 = sL_law_1238 := dn1 hL_law_1237
theorem dL_law_1238 : decode cL_law 1238 = .ok (.iaload, 1) := dk46 hL_law_1238
theorem hL_law_1239 : cL_law.data.toList.drop 1239 = sL_law_1239 := dn1 hL_law_1238
theorem dL_law_1239 : decode cL_law 1239 = .ok (.invokevirtual 168, 3) := dk182 hL_law_1239 rfl
theorem hL_law_1242 : cL_law.data.toList.drop 1242 = sL_law_1242 := dn3 hL_law_1239
theorem dL_law_1242 : decode cL_law 1242 = .ok (.pop, 1) := dk87 hL_law_1242
theorem hL_law_1243 : cL_law.data.toList.drop 1243 = sL_law_1243 := dn1 hL_law_1242
theorem dL_law_1243 : decode cL_law 1243 = .ok (.aload_n 2, 1) := dk44 hL_law_1243
theorem hL_law_1244 : cL_law.data.toList.drop 1244 = sL_law_1244 := dn1 hL_law_1243
theorem dL_law_1244 : decode cL_law 1244 = .ok (.aload_n 0, 1) := dk42 hL_law_1244
theorem hL_law_1245 : cL_law.data.toList.drop 1245 = sL_law_1245 := dn1 hL_law_1244
theorem dL_law_1245 : decode cL_law 1245 = .ok (.iload 4, 2) := dk21 hL_law_1245 rfl
theorem hL_law_1247 : cL_law.data.toList.drop 1247 = sL_law_1247 := dn2 hL_law_1245
theorem dL_law_1247 : decode cL_law 1247 = .ok (.iconst 1, 1) := dk4 hL_law_1247
theorem hL_law_1248 : cL_law.data.toList.drop 1248 = sL_law_1248 := dn1 hL_law_1247
theorem dL_law_1248 : decode cL_law 1248 = .ok (.iadd, 1) := dk96 hL_law_1248
theorem hL_law_1249 : cL_law.data.toList.drop 1249 = sL_law_1249 := dn1 hL_law_1248
theorem dL_law_1249 : decode cL_law 1249 = .ok (.iaload, 1) := dk46 hL_law_1249
theorem hL_law_1250 : cL_law.data.toList.drop 1250 = sL_law_1250 := dn1 hL_law_1249
theorem dL_law_1250 : decode cL_law 1250 = .ok (.invokevirtual 171, 3) := dk182 hL_law_1250 rfl
theorem hL_law_1253 : cL_law.data.toList.drop 1253 = sL_law_1253 := dn3 hL_law_1250
theorem dL_law_1253 : decode cL_law 1253 = .ok (.pop, 1) := dk87 hL_law_1253
theorem hL_law_1254 : cL_law.data.toList.drop 1254 = sL_law_1254 := dn1 hL_law_1253
theorem dL_law_1254 : decode cL_law 1254 = .ok (.goto 573, 3) := dk167 hL_law_1254 (by decide)
theorem hL_law_1257 : cL_law.data.toList.drop 1257 = sL_law_1257 := dn3 hL_law_1254
theorem dL_law_1257 : decode cL_law 1257 = .ok (.aload_n 1, 1) := dk43 hL_law_1257
theorem hL_law_1258 : cL_law.data.toList.drop 1258 = sL_law_1258 := dn1 hL_law_1257
theorem dL_law_1258 : decode cL_law 1258 = .ok (.invokevirtual 172, 3) := dk182 hL_law_1258 rfl
theorem hL_law_1261 : cL_law.data.toList.drop 1261 = sL_law_1261 := dn3 hL_law_1258
theorem dL_law_1261 : decode cL_law 1261 = .ok (.pop, 1) := dk87 hL_law_1261
theorem hL_law_1262 : cL_law.data.toList.drop 1262 = sL_law_1262 := dn1 hL_law_1261
theorem dL_law_1262 : decode cL_law 1262 = .ok (.aload_n 2, 1) := dk44 hL_law_1262
theorem hL_law_1263 : cL_law.data.toList.drop 1263 = sL_law_1263 := dn1 hL_law_1262
theorem dL_law_1263 : decode cL_law 1263 = .ok (.invokevirtual 175, 3) := dk182 hL_law_1263 rfl
theorem hL_law_1266 : cL_law.data.toList.drop 1266 = sL_law_1266 := dn3 hL_law_1263
theorem dL_law_1266 : decode cL_law 1266 = .ok (.pop, 1) := dk87 hL_law_1266
theorem hL_law_1267 : cL_law.data.toList.drop 1267 = sL_law_1267 := dn1 hL_law_1266
theorem dL_law_1267 : decode cL_law 1267 = .ok (.goto 560, 3) := dk167 hL_law_1267 (by decide)
theorem hL_law_1270 : cL_law.data.toList.drop 1270 = sL_law_1270 := dn3 hL_law_1267
theorem dL_law_1270 : decode cL_law 1270 = .ok (.aload_n 1, 1) := dk43 hL_law_1270
theorem hL_law_1271 : cL_law.data.toList.drop 1271 = sL_law_1271 := dn1 hL_law_1270
theorem dL_law_1271 : decode cL_law 1271 = .ok (.invokevirtual 176, 3) := dk182 hL_law_1271 rfl
theorem hL_law_1274 : cL_law.data.toList.drop 1274 = sL_law_1274 := dn3 hL_law_1271
theorem dL_law_1274 : decode cL_law 1274 = .ok (.pop, 1) := dk87 hL_law_1274
theorem hL_law_1275 : cL_law.data.toList.drop 1275 = sL_law_1275 := dn1 hL_law_1274
theorem dL_law_1275 : decode cL_law 1275 = .ok (.aload_n 2, 1) := dk44 hL_law_1275
theorem hL_law_1276 : cL_law.data.toList.drop 1276 = sL_law_1276 := dn1 hL_law_1275
theorem dL_law_1276 : decode cL_law 1276 = .ok (.invokevirtual 179, 3) := dk182 hL_law_1276 rfl
theorem hL_law_1279 : cL_law.data.toList.drop 1279 = sL_law_1279 := dn3 hL_law_1276
theorem dL_law_1279 : decode cL_law 1279 = .ok (.pop, 1) := dk87 hL_law_1279
theorem hL_law_1280 : cL_law.data.toList.drop 1280 = sL_law_1280 := dn1 hL_law_1279
theorem dL_law_1280 : decode cL_law 1280 = .ok (.goto 547, 3) := dk167 hL_law_1280 (by decide)
theorem hL_law_1283 : cL_law.data.toList.drop 1283 = sL_law_1283 := dn3 hL_law_1280
theorem dL_law_1283 : decode cL_law 1283 = .ok (.aload_n 1, 1) := dk43 hL_law_1283
theorem hL_law_1284 : cL_law.data.toList.drop 1284 = sL_law_1284 := dn1 hL_law_1283
theorem dL_law_1284 : decode cL_law 1284 = .ok (.invokevirtual 180, 3) := dk182 hL_law_1284 rfl
theorem hL_law_1287 : cL_law.data.toList.drop 1287 = sL_law_1287 := dn3 hL_law_1284
theorem dL_law_1287 : decode cL_law 1287 = .ok (.pop, 1) := dk87 hL_law_1287
theorem hL_law_1288 : cL_law.data.toList.drop 1288 = sL_law_1288 := dn1 hL_law_1287
theorem dL_law_1288 : decode cL_law 1288 = .ok (.aload_n 2, 1) := dk44 hL_law_1288
theorem hL_law_1289 : cL_law.data.toList.drop 1289 = sL_law_1289 := dn1 hL_law_1288
theorem dL_law_1289 : decode cL_law 1289 = .ok (.invokevirtual 183, 3) := dk182 hL_law_1289 rfl
theorem hL_law_1292 : cL_law.data.toList.drop 1292 = sL_law_1292 := dn3 hL_law_1289
theorem dL_law_1292 : decode cL_law 1292 = .ok (.pop, 1) := dk87 hL_law_1292
theorem hL_law_1293 : cL_law.data.toList.drop 1293 = sL_law_1293 := dn1 hL_law_1292
theorem dL_law_1293 : decode cL_law 1293 = .ok (.goto 534, 3) := dk167 hL_law_1293 (by decide)
theorem hL_law_1296 : cL_law.data.toList.drop 1296 = sL_law_1296 := dn3 hL_law_1293
theorem dL_law_1296 : decode cL_law 1296 = .ok (.aload_n 1, 1) := dk43 hL_law_1296
theorem hL_law_1297 : cL_law.data.toList.drop 1297 = sL_law_1297 := dn1 hL_law_1296
theorem dL_law_1297 : decode cL_law 1297 = .ok (.invokevirtual 184, 3) := dk182 hL_law_1297 rfl
theorem hL_law_1300 : cL_law.data.toList.drop 1300 = sL_law_1300 := dn3 hL_law_1297
theorem dL_law_1300 : decode cL_law 1300 = .ok (.pop, 1) := dk87 hL_law_1300
theorem hL_law_1301 : cL_law.data.toList.drop 1301 = sL_law_1301 := dn1 hL_law_1300
theorem dL_law_1301 : decode cL_law 1301 = .ok (.aload_n 2, 1) := dk44 hL_law_1301
theorem hL_law_1302 : cL_law.data.toList.drop 1302 = sL_law_1302 := dn1 hL_law_1301
theorem dL_law_1302 : decode cL_law 1302 = .ok (.invokevirtual 187, 3) := dk182 hL_law_1302 rfl
theorem hL_law_1305 : cL_law.data.toList.drop 1305 = sL_law_1305 := dn3 hL_law_1302
theorem dL_law_1305 : decode cL_law 1305 = .ok (.pop, 1) := dk87 hL_law_1305
theorem hL_law_1306 : cL_law.data.toList.drop 1306 = sL_law_1306 := dn1 hL_law_1305
theorem dL_law_1306 : decode cL_law 1306 = .ok (.goto 521, 3) := dk167 hL_law_1306 (by decide)
theorem hL_law_1309 : cL_law.data.toList.drop 1309 = sL_law_1309 := dn3 hL_law_1306
theorem dL_law_1309 : decode cL_law 1309 = .ok (.aload_n 1, 1) := dk43 hL_law_1309
theorem hL_law_1310 : cL_law.data.toList.drop 1310 = sL_law_1310 := dn1 hL_law_1309
theorem dL_law_1310 : decode cL_law 1310 = .ok (.aload_n 0, 1) := dk42 hL_law_1310
theorem hL_law_1311 : cL_law.data.toList.drop 1311 = sL_law_1311 := dn1 hL_law_1310
theorem dL_law_1311 : decode cL_law 1311 = .ok (.iload 4, 2) := dk21 hL_law_1311 rfl
theorem hL_law_1313 : cL_law.data.toList.drop 1313 = sL_law_1313 := dn2 hL_law_1311
theorem dL_law_1313 : decode cL_law 1313 = .ok (.iconst 1, 1) := dk4 hL_law_1313
theorem hL_law_1314 : cL_law.data.toList.drop 1314 = sL_law_1314 := dn1 hL_law_1313
theorem dL_law_1314 : decode cL_law 1314 = .ok (.iadd, 1) := dk96 hL_law_1314
theorem hL_law_1315 : cL_law.data.toList.drop 1315 = sL_law_1315 := dn1 hL_law_1314
theorem dL_law_1315 : decode cL_law 1315 = .ok (.iaload, 1) := dk46 hL_law_1315
theorem hL_law_1316 : cL_law.data.toList.drop 1316 = sL_law_1316 := dn1 hL_law_1315
theorem dL_law_1316 : decode cL_law 1316 = .ok (.aload_n 0, 1) := dk42 hL_law_1316
theorem hL_law_1317 : cL_law.data.toList.drop 1317 = sL_law_1317 := dn1 hL_law_1316
theorem dL_law_1317 : decode cL_law 1317 = .ok (.iload 4, 2) := dk21 hL_law_1317 rfl
theorem hL_law_1319 : cL_law.data.toList.drop 1319 = sL_law_1319 := dn2 hL_law_1317
theorem dL_law_1319 : decode cL_law 1319 = .ok (.iconst 2, 1) := dk5 hL_law_1319
theorem hL_law_1320 : cL_law.data.toList.drop 1320 = sL_law_1320 := dn1 hL_law_1319
theorem dL_law_1320 : decode cL_law 1320 = .ok (.iadd, 1) := dk96 hL_law_1320
theorem hL_law_1321 : cL_law.data.toList.drop 1321 = sL_law_1321 := dn1 hL_law_1320
theorem dL_law_1321 : decode cL_law 1321 = .ok (.iaload, 1) := dk46 hL_law_1321
theorem hL_law_1322 : cL_law.data.toList.drop 1322 = sL_law_1322 := dn1 hL_law_1321
theorem dL_law_1322 : decode cL_law 1322 = .ok (.ifCond .eq 7, 3) := dk153 hL_law_1322 (by decide)
theorem hL_law_1325 : cL_law.data.toList.drop 1325 = sL_law_1325 := dn3 hL_law_1322
theorem dL_law_1325 : decode cL_law 1325 = .ok (.iconst 1, 1) := dk4 hL_law_1325
theorem hL_law_1326 : cL_law.data.toList.drop 1326 = sL_law_1326 := dn1 hL_law_1325
theorem dL_law_1326 : decode cL_law 1326 = .ok (.goto 4, 3) := dk167 hL_law_1326 (by decide)
theorem hL_law_1329 : cL_law.data.toList.drop 1329 = sL_law_1329 := dn3 hL_law_1326
theorem dL_law_1329 : decode cL_law 1329 = .ok (.iconst 0, 1) := dk3 hL_law_1329
theorem hL_law_1330 : cL_law.data.toList.drop 1330 = sL_law_1330 := dn1 hL_law_1329
theorem dL_law_1330 : decode cL_law 1330 = .ok (.invokevirtual 188, 3) := dk182 hL_law_1330 rfl
theorem hL_law_1333 : cL_law.data.toList.drop 1333 = sL_law_1333 := dn3 hL_law_1330
theorem dL_law_1333 : decode cL_law 1333 = .ok (.pop2, 1) := dk88 hL_law_1333
theorem hL_law_1334 : cL_law.data.toList.drop 1334 = sL_law_1334 := dn1 hL_law_1333
theorem dL_law_1334 : decode cL_law 1334 = .ok (.aload_n 2, 1) := dk44 hL_law_1334
theorem hL_law_1335 : cL_law.data.toList.drop 1335 = sL_law_1335 := dn1 hL_law_1334
theorem dL_law_1335 : decode cL_law 1335 = .ok (.aload_n 0, 1) := dk42 hL_law_1335
theorem hL_law_1336 : cL_law.data.toList.drop 1336 = sL_law_1336 := dn1 hL_law_1335
theorem dL_law_1336 : decode cL_law 1336 = .ok (.iload 4, 2) := dk21 hL_law_1336 rfl
theorem hL_law_1338 : cL_law.data.toList.drop 1338 = sL_law_1338 := dn2 hL_law_1336
theorem dL_law_1338 : decode cL_law 1338 = .ok (.iconst 1, 1) := dk4 hL_law_1338
theorem hL_law_1339 : cL_law.data.toList.drop 1339 = sL_law_1339 := dn1 hL_law_1338
theorem dL_law_1339 : decode cL_law 1339 = .ok (.iadd, 1) := dk96 hL_law_1339
theorem hL_law_1340 : cL_law.data.toList.drop 1340 = sL_law_1340 := dn1 hL_law_1339
theorem dL_law_1340 : decode cL_law 1340 = .ok (.iaload, 1) := dk46 hL_law_1340
theorem hL_law_1341 : cL_law.data.toList.drop 1341 = sL_law_1341 := dn1 hL_law_1340
theorem dL_law_1341 : decode cL_law 1341 = .ok (.aload_n 0, 1) := dk42 hL_law_1341
theorem hL_law_1342 : cL_law.data.toList.drop 1342 = sL_law_1342 := dn1 hL_law_1341
theorem dL_law_1342 : decode cL_law 1342 = .ok (.iload 4, 2) := dk21 hL_law_1342 rfl
theorem hL_law_1344 : cL_law.data.toList.drop 1344 = sL_law_1344 := dn2 hL_law_1342
theorem dL_law_1344 : decode cL_law 1344 = .ok (.iconst 2, 1) := dk5 hL_law_1344
theorem hL_law_1345 : cL_law.data.toList.drop 1345 = sL_law_1345 := dn1 hL_law_1344
theorem dL_law_1345 : decode cL_law 1345 = .ok (.iadd, 1) := dk96 hL_law_1345
theorem hL_law_1346 : cL_law.data.toList.drop 1346 = sL_law_1346 := dn1 hL_law_1345
theorem dL_law_1346 : decode cL_law 1346 = .ok (.iaload, 1) := dk46 hL_law_1346
theorem hL_law_1347 : cL_law.data.toList.drop 1347 = sL_law_1347 := dn1 hL_law_1346
theorem dL_law_1347 : decode cL_law 1347 = .ok (.ifCond .eq 7, 3) := dk153 hL_law_1347 (by decide)
theorem hL_law_1350 : cL_law.data.toList.drop 1350 = sL_law_1350 := dn3 hL_law_1347
theorem dL_law_1350 : decode cL_law 1350 = .ok (.iconst 1, 1) := dk4 hL_law_1350
theorem hL_law_1351 : cL_law.data.toList.drop 1351 = sL_law_1351 := dn1 hL_law_1350
theorem dL_law_1351 : decode cL_law 1351 = .ok (.goto 4, 3) := dk167 hL_law_1351 (by decide)
theorem hL_law_1354 : cL_law.data.toList.drop 1354 = sL_law_1354 := dn3 hL_law_1351
theorem dL_law_1354 : decode cL_law 1354 = .ok (.iconst 0, 1) := dk3 hL_law_1354
theorem hL_law_1355 : cL_law.data.toList.drop 1355 = sL_law_1355 := dn1 hL_law_1354
theorem dL_law_1355 : decode cL_law 1355 = .ok (.invokevirtual 191, 3) := dk182 hL_law_1355 rfl
theorem hL_law_1358 : cL_law.data.toList.drop 1358 = sL_law_1358 := dn3 hL_law_1355
theorem dL_law_1358 : decode cL_law 1358 = .ok (.pop2, 1) := dk88 hL_law_1358
theorem hL_law_1359 : cL_law.data.toList.drop 1359 = sL_law_1359 := dn1 hL_law_1358
theorem dL_law_1359 : decode cL_law 1359 = .ok (.goto 468, 3) := dk167 hL_law_1359 (by decide)
theorem hL_law_1362 : cL_law.data.toList.drop 1362 = sL_law_1362 := dn3 hL_law_1359
theorem dL_law_1362 : decode cL_law 1362 = .ok (.aload_n 1, 1) := dk43 hL_law_1362
theorem hL_law_1363 : cL_law.data.toList.drop 1363 = sL_law_1363 := dn1 hL_law_1362
theorem dL_law_1363 : decode cL_law 1363 = .ok (.aload_n 0, 1) := dk42 hL_law_1363
theorem hL_law_1364 : cL_law.data.toList.drop 1364 = sL_law_1364 := dn1 hL_law_1363
theorem dL_law_1364 : decode cL_law 1364 = .ok (.iload 4, 2) := dk21 hL_law_1364 rfl
theorem hL_law_1366 : cL_law.data.toList.drop 1366 = sL_law_1366 := dn2 hL_law_1364
theorem dL_law_1366 : decode cL_law 1366 = .ok (.iconst 1, 1) := dk4 hL_law_1366
theorem hL_law_1367 : cL_law.data.toList.drop 1367 = sL_law_1367 := dn1 hL_law_1366
theorem dL_law_1367 : decode cL_law 1367 = .ok (.iadd, 1) := dk96 hL_law_1367
theorem hL_law_1368 : cL_law.data.toList.drop 1368 = sL_law_1368 := dn1 hL_law_1367
theorem dL_law_1368 : decode cL_law 1368 = .ok (.iaload, 1) := dk46 hL_law_1368
theorem hL_law_1369 : cL_law.data.toList.drop 1369 = sL_law_1369 := dn1 hL_law_1368
theorem dL_law_1369 : decode cL_law 1369 = .ok (.ifCond .eq 7, 3) := dk153 hL_law_1369 (by decide)
theorem hL_law_1372 : cL_law.data.toList.drop 1372 = sL_law_1372 := dn3 hL_law_1369
theorem dL_law_1372 : decode cL_law 1372 = .ok (.iconst 1, 1) := dk4 hL_law_1372
theorem hL_law_1373 : cL_law.data.toList.drop 1373 = sL_law_1373 := dn1 hL_law_1372
theorem dL_law_1373 : decode cL_law 1373 = .ok (.goto 4, 3) := dk167 hL_law_1373 (by decide)
theorem hL_law_1376 : cL_law.data.toList.drop 1376 = sL_law_1376 := dn3 hL_law_1373
theorem dL_law_1376 : decode cL_law 1376 = .ok (.iconst 0, 1) := dk3 hL_law_1376
theorem hL_law_1377 : cL_law.data.toList.drop 1377 = sL_law_1377 := dn1 hL_law_1376
theorem dL_law_1377 : decode cL_law 1377 = .ok (.invokevirtual 192, 3) := dk182 hL_law_1377 rfl
theorem hL_law_1380 : cL_law.data.toList.drop 1380 = sL_law_1380 := dn3 hL_law_1377
theorem dL_law_1380 : decode cL_law 1380 = .ok (.pop2, 1) := dk88 hL_law_1380
theorem hL_law_1381 : cL_law.data.toList.drop 1381 = sL_law_1381 := dn1 hL_law_1380
theorem dL_law_1381 : decode cL_law 1381 = .ok (.aload_n 2, 1) := dk44 hL_law_1381
theorem hL_law_1382 : cL_law.data.toList.drop 1382 = sL_law_1382 := dn1 hL_law_1381
theorem dL_law_1382 : decode cL_law 1382 = .ok (.aload_n 0, 1) := dk42 hL_law_1382
theorem hL_law_1383 : cL_law.data.toList.drop 1383 = sL_law_1383 := dn1 hL_law_1382
theorem dL_law_1383 : decode cL_law 1383 = .ok (.iload 4, 2) := dk21 hL_law_1383 rfl
theorem hL_law_1385 : cL_law.data.toList.drop 1385 = sL_law_1385 := dn2 hL_law_1383
theorem dL_law_1385 : decode cL_law 1385 = .ok (.iconst 1, 1) := dk4 hL_law_1385
theorem hL_law_1386 : cL_law.data.toList.drop 1386 = sL_law_1386 := dn1 hL_law_1385
theorem dL_law_1386 : decode cL_law 1386 = .ok (.iadd, 1) := dk96 hL_law_1386
theorem hL_law_1387 : cL_law.data.toList.drop 1387 = sL_law_1387 := dn1 hL_law_1386
theorem dL_law_1387 : decode cL_law 1387 = .ok (.iaload, 1) := dk46 hL_law_1387
theorem hL_law_1388 : cL_law.data.toList.drop 1388 = sL_law_1388 := dn1 hL_law_1387
theorem dL_law_1388 : decode cL_law 1388 = .ok (.ifCond .eq 7, 3) := dk153 hL_law_1388 (by decide)
theorem hL_law_1391 : cL_law.data.toList.drop 1391 = sL_law_1391 := dn3 hL_law_1388
theorem dL_law_1391 : decode cL_law 1391 = .ok (.iconst 1, 1) := dk4 hL_law_1391
theorem hL_law_1392 : cL_law.data.toList.drop 1392 = sL_law_1392 := dn1 hL_law_1391
theorem dL_law_1392 : decode cL_law 1392 = .ok (.goto 4, 3) := dk167 hL_law_1392 (by decide)
theorem hL_law_1395 : cL_law.data.toList.drop 1395 = sL_law_1395 := dn3 hL_law_1392
theorem dL_law_1395 : decode cL_law 1395 = .ok (.iconst 0, 1) := dk3 hL_law_1395
theorem hL_law_1396 : cL_law.data.toList.drop 1396 = sL_law_1396 := dn1 hL_law_1395
theorem dL_law_1396 : decode cL_law 1396 = .ok (.invokevirtual 196, 3) := dk182 hL_law_1396 rfl
theorem hL_law_1399 : cL_law.data.toList.drop 1399 = sL_law_1399 := dn3 hL_law_1396
theorem dL_law_1399 : decode cL_law 1399 = .ok (.pop2, 1) := dk88 hL_law_1399
theorem hL_law_1400 : cL_law.data.toList.drop 1400 = sL_law_1400 := dn1 hL_law_1399
theorem dL_law_1400 : decode cL_law 1400 = .ok (.goto 427, 3) := dk167 hL_law_1400 (by decide)
theorem hL_law_1403 : cL_law.data.toList.drop 1403 = sL_law_1403 := dn3 hL_law_1400
theorem dL_law_1403 : decode cL_law 1403 = .ok (.aload_n 1, 1) := dk43 hL_law_1403
theorem hL_law_1404 : cL_law.data.toList.drop 1404 = sL_law_1404 := dn1 hL_law_1403
theorem dL_law_1404 : decode cL_law 1404 = .ok (.aload_n 0, 1) := dk42 hL_law_1404
theorem hL_law_1405 : cL_law.data.toList.drop 1405 = sL_law_1405 := dn1 hL_law_1404
theorem dL_law_1405 : decode cL_law 1405 = .ok (.iload 4, 2) := dk21 hL_law_1405 rfl
theorem hL_law_1407 : cL_law.data.toList.drop 1407 = sL_law_1407 := dn2 hL_law_1405
theorem dL_law_1407 : decode cL_law 1407 = .ok (.iconst 1, 1) := dk4 hL_law_1407
theorem hL_law_1408 : cL_law.data.toList.drop 1408 = sL_law_1408 := dn1 hL_law_1407
theorem dL_law_1408 : decode cL_law 1408 = .ok (.iadd, 1) := dk96 hL_law_1408
theorem hL_law_1409 : cL_law.data.toList.drop 1409 = sL_law_1409 := dn1 hL_law_1408
theorem dL_law_1409 : decode cL_law 1409 = .ok (.iaload, 1) := dk46 hL_law_1409
theorem hL_law_1410 : cL_law.data.toList.drop 1410 = sL_law_1410 := dn1 hL_law_1409
theorem dL_law_1410 : decode cL_law 1410 = .ok (.aload_n 0, 1) := dk42 hL_law_1410
theorem hL_law_1411 : cL_law.data.toList.drop 1411 = sL_law_1411 := dn1 hL_law_1410
theorem dL_law_1411 : decode cL_law 1411 = .ok (.iload 4, 2) := dk21 hL_law_1411 rfl
theorem hL_law_1413 : cL_law.data.toList.drop 1413 = sL_law_1413 := dn2 hL_law_1411
theorem dL_law_1413 : decode cL_law 1413 = .ok (.iconst 2, 1) := dk5 hL_law_1413
theorem hL_law_1414 : cL_law.data.toList.drop 1414 = sL_law_1414 := dn1 hL_law_1413
theorem dL_law_1414 : decode cL_law 1414 = .ok (.iadd, 1) := dk96 hL_law_1414
theorem hL_law_1415 : cL_law.data.toList.drop 1415 = sL_law_1415 := dn1 hL_law_1414
theorem dL_law_1415 : decode cL_law 1415 = .ok (.iaload, 1) := dk46 hL_law_1415
theorem hL_law_1416 : cL_law.data.toList.drop 1416 = sL_law_1416 := dn1 hL_law_1415
theorem dL_law_1416 : decode cL_law 1416 = .ok (.ifCond .eq 7, 3) := dk153 hL_law_1416 (by decide)
theorem hL_law_1419 : cL_law.data.toList.drop 1419 = sL_law_1419 := dn3 hL_law_1416
theorem dL_law_1419 : decode cL_law 1419 = .ok (.iconst 1, 1) := dk4 hL_law_1419
theorem hL_law_1420 : cL_law.data.toList.drop 1420 = sL_law_1420 := dn1 hL_law_1419
theorem dL_law_1420 : decode cL_law 1420 = .ok (.goto 4, 3) := dk167 hL_law_1420 (by decide)
theorem hL_law_1423 : cL_law.data.toList.drop 1423 = sL_law_1423 := dn3 hL_law_1420
theorem dL_law_1423 : decode cL_law 1423 = .ok (.iconst 0, 1) := dk3 hL_law_1423
theorem hL_law_1424 : cL_law.data.toList.drop 1424 = sL_law_1424 := dn1 hL_law_1423
theorem dL_law_1424 : decode cL_law 1424 = .ok (.aload_n 0, 1) := dk42 hL_law_1424
theorem hL_law_1425 : cL_law.data.toList.drop 1425 = sL_law_1425 := dn1 hL_law_1424
theorem dL_law_1425 : decode cL_law 1425 = .ok (.iload 4, 2) := dk21 hL_law_1425 rfl
theorem hL_law_1427 : cL_law.data.toList.drop 1427 = sL_law_1427 := dn2 hL_law_1425
theorem dL_law_1427 : decode cL_law 1427 = .ok (.iconst 3, 1) := dk6 hL_law_1427
theorem hL_law_1428 : cL_law.data.toList.drop 1428 = sL_law_1428 := dn1 hL_law_1427
theorem dL_law_1428 : decode cL_law 1428 = .ok (.iadd, 1) := dk96 hL_law_1428
theorem hL_law_1429 : cL_law.data.toList.drop 1429 = sL_law_1429 := dn1 hL_law_1428
theorem dL_law_1429 : decode cL_law 1429 = .ok (.iaload, 1) := dk46 hL_law_1429
theorem hL_law_1430 : cL_law.data.toList.drop 1430 = sL_law_1430 := dn1 hL_law_1429
theorem dL_law_1430 : decode cL_law 1430 = .ok (.ifCond .eq 7, 3) := dk153 hL_law_1430 (by decide)
theorem hL_law_1433 : cL_law.data.toList.drop 1433 = sL_law_1433 := dn3 hL_law_1430
theorem dL_law_1433 : decode cL_law 1433 = .ok (.iconst 1, 1) := dk4 hL_law_1433
theorem hL_law_1434 : cL_law.data.toList.drop 1434 = sL_law_1434 := dn1 hL_law_1433
theorem dL_law_1434 : decode cL_law 1434 = .ok (.goto 4, 3) := dk167 hL_law_1434 (by decide)
theorem hL_law_1437 : cL_law.data.toList.drop 1437 = sL_law_1437 := dn3 hL_law_1434
theorem dL_law_1437 : decode cL_law 1437 = .ok (.iconst 0, 1) := dk3 hL_law_1437
theorem hL_law_1438 : cL_law.data.toList.drop 1438 = sL_law_1438 := dn1 hL_law_1437
theorem dL_law_1438 : decode cL_law 1438 = .ok (.aload_n 0, 1) := dk42 hL_law_1438
theorem hL_law_1439 : cL_law.data.toList.drop 1439 = sL_law_1439 := dn1 hL_law_1438
theorem dL_law_1439 : decode cL_law 1439 = .ok (.iload 4, 2) := dk21 hL_law_1439 rfl
theorem hL_law_1441 : cL_law.data.toList.drop 1441 = sL_law_1441 := dn2 hL_law_1439
theorem dL_law_1441 : decode cL_law 1441 = .ok (.iconst 4, 1) := dk7 hL_law_1441
theorem hL_law_1442 : cL_law.data.toList.drop 1442 = sL_law_1442 := dn1 hL_law_1441
theorem dL_law_1442 : decode cL_law 1442 = .ok (.iadd, 1) := dk96 hL_law_1442
theorem hL_law_1443 : cL_law.data.toList.drop 1443 = sL_law_1443 := dn1 hL_law_1442
theorem dL_law_1443 : decode cL_law 1443 = .ok (.iaload, 1) := dk46 hL_law_1443
theorem hL_law_1444 : cL_law.data.toList.drop 1444 = sL_law_1444 := dn1 hL_law_1443
theorem dL_law_1444 : decode cL_law 1444 = .ok (.ifCond .eq 7, 3) := dk153 hL_law_1444 (by decide)
theorem hL_law_1447 : cL_law.data.toList.drop 1447 = sL_law_1447 := dn3 hL_law_1444
theorem dL_law_1447 : decode cL_law 1447 = .ok (.iconst 1, 1) := dk4 hL_law_1447
theorem hL_law_1448 : cL_law.data.toList.drop 1448 = sL_law_1448 := dn1 hL_law_1447
theorem dL_law_1448 : decode cL_law 1448 = .ok (.goto 4, 3) := dk167 hL_law_1448 (by decide)
theorem hL_law_1451 : cL_law.data.toList.drop 1451 = sL_law_1451 := dn3 hL_law_1448
theorem dL_law_1451 : decode cL_law 1451 = .ok (.iconst 0, 1) := dk3 hL_law_1451
theorem hL_law_1452 : cL_law.data.toList.drop 1452 = sL_law_1452 := dn1 hL_law_1451
theorem dL_law_1452 : decode cL_law 1452 = .ok (.invokevirtual 197, 3) := dk182 hL_law_1452 rfl
theorem hL_law_1455 : cL_law.data.toList.drop 1455 = sL_law_1455 := dn3 hL_law_1452
theorem dL_law_1455 : decode cL_law 1455 = .ok (.pop, 1) := dk87 hL_law_1455
theorem hL_law_1456 : cL_law.data.toList.drop 1456 = sL_law_1456 := dn1 hL_law_1455
theorem dL_law_1456 : decode cL_law 1456 = .ok (.aload_n 2, 1) := dk44 hL_law_1456
theorem hL_law_1457 : cL_law.data.toList.drop 1457 = sL_law_1457 := dn1 hL_law_1456
theorem dL_law_1457 : decode cL_law 1457 = .ok (.aload_n 0, 1) := dk42 hL_law_1457
theorem hL_law_1458 : cL_law.data.toList.drop 1458 = sL_law_1458 := dn1 hL_law_1457
theorem dL_law_1458 : decode cL_law 1458 = .ok (.iload 4, 2) := dk21 hL_law_1458 rfl
theorem hL_law_1460 : cL_law.data.toList.drop 1460 = sL_law_1460 := dn2 hL_law_1458
theorem dL_law_1460 : decode cL_law 1460 = .ok (.iconst 1, 1) := dk4 hL_law_1460
theorem hL_law_1461 : cL_law.data.toList.drop 1461 = sL_law_1461 := dn1 hL_law_1460
theorem dL_law_1461 : decode cL_law 1461 = .ok (.iadd, 1) := dk96 hL_law_1461
theorem hL_law_1462 : cL_law.data.toList.drop 1462 = sL_law_1462 := dn1 hL_law_1461
theorem dL_law_1462 : decode cL_law 1462 = .ok (.iaload, 1) := dk46 hL_law_1462
theorem hL_law_1463 : cL_law.data.toList.drop 1463 = sL_law_1463 := dn1 hL_law_1462
theorem dL_law_1463 : decode cL_law 1463 = .ok (.aload_n 0, 1) := dk42 hL_law_1463
theorem hL_law_1464 : cL_law.data.toList.drop 1464 = sL_law_1464 := dn1 hL_law_1463
theorem dL_law_1464 : decode cL_law 1464 = .ok (.iload 4, 2) := dk21 hL_law_1464 rfl
theorem hL_law_1466 : cL_law.data.toList.drop 1466 = sL_law_1466 := dn2 hL_law_1464
theorem dL_law_1466 : decode cL_law 1466 = .ok (.iconst 2, 1) := dk5 hL_law_1466
theorem hL_law_1467 : cL_law.data.toList.drop 1467 = sL_law_1467 := dn1 hL_law_1466
theorem dL_law_1467 : decode cL_law 1467 = .ok (.iadd, 1) := dk96 hL_law_1467
theorem hL_law_1468 : cL_law.data.toList.drop 1468 = sL_law_1468 := dn1 hL_law_1467
theorem dL_law_1468 : decode cL_law 1468 = .ok (.iaload, 1) := dk46 hL_law_1468
theorem hL_law_1469 : cL_law.data.toList.drop 1469 = sL_law_1469 := dn1 hL_law_1468
theorem dL_law_1469 : decode cL_law 1469 = .ok (.ifCond .eq 7, 3) := dk153 hL_law_1469 (by decide)
theorem hL_law_1472 : cL_law.data.toList.drop 1472 = sL_law_1472 := dn3 hL_law_1469
theorem dL_law_1472 : decode cL_law 1472 = .ok (.iconst 1, 1) := dk4 hL_law_1472
theorem hL_law_1473 : cL_law.data.toList.drop 1473 = sL_law_1473 := dn1 hL_law_1472
theorem dL_law_1473 : decode cL_law 1473 = .ok (.goto 4, 3) := dk167 hL_law_1473 (by decide)
theorem hL_law_1476 : cL_law.data.toList.drop 1476 = sL_law_1476 := dn3 hL_law_1473
theorem dL_law_1476 : decode cL_law 1476 = .ok (.iconst 0, 1) := dk3 hL_law_1476
theorem hL_law_1477 : cL_law.data.toList.drop 1477 = sL_law_1477 := dn1 hL_law_1476
theorem dL_law_1477 : decode cL_law 1477 = .ok (.aload_n 0, 1) := dk42 hL_law_1477
theorem hL_law_1478 : cL_law.data.toList.drop 1478 = sL_law_1478 := dn1 hL_law_1477
theorem dL_law_1478 : decode cL_law 1478 = .ok (.iload 4, 2) := dk21 hL_law_1478 rfl
theorem hL_law_1480 : cL_law.data.toList.drop 1480 = sL_law_1480 := dn2 hL_law_1478
theorem dL_law_1480 : decode cL_law 1480 = .ok (.iconst 3, 1) := dk6 hL_law_1480
theorem hL_law_1481 : cL_law.data.toList.drop 1481 = sL_law_1481 := dn1 hL_law_1480
theorem dL_law_1481 : decode cL_law 1481 = .ok (.iadd, 1) := dk96 hL_law_1481
theorem hL_law_1482 : cL_law.data.toList.drop 1482 = sL_law_1482 := dn1 hL_law_1481
theorem dL_law_1482 : decode cL_law 1482 = .ok (.iaload, 1) := dk46 hL_law_1482
theorem hL_law_1483 : cL_law.data.toList.drop 1483 = sL_law_1483 := dn1 hL_law_1482
theorem dL_law_1483 : decode cL_law 1483 = .ok (.ifCond .eq 7, 3) := dk153 hL_law_1483 (by decide)
theorem hL_law_1486 : cL_law.data.toList.drop 1486 = sL_law_1486 := dn3 hL_law_1483
theorem dL_law_1486 : decode cL_law 1486 = .ok (.iconst 1, 1) := dk4 hL_law_1486
theorem hL_law_1487 : cL_law.data.toList.drop 1487 = sL_law_1487 := dn1 hL_law_1486
theorem dL_law_1487 : decode cL_law 1487 = .ok (.goto 4, 3) := dk167 hL_law_1487 (by decide)
theorem hL_law_1490 : cL_law.data.toList.drop 1490 = sL_law_1490 := dn3 hL_law_1487
theorem dL_law_1490 : decode cL_law 1490 = .ok (.iconst 0, 1) := dk3 hL_law_1490
theorem hL_law_1491 : cL_law.data.toList.drop 1491 = sL_law_1491 := dn1 hL_law_1490
theorem dL_law_1491 : decode cL_law 1491 = .ok (.aload_n 0, 1) := dk42 hL_law_1491
theorem hL_law_1492 : cL_law.data.toList.drop 1492 = sL_law_1492 := dn1 hL_law_1491
theorem dL_law_1492 : decode cL_law 1492 = .ok (.iload 4, 2) := dk21 hL_law_1492 rfl
theorem hL_law_1494 : cL_law.data.toList.drop 1494 = sL_law_1494 := dn2 hL_law_1492
theorem dL_law_1494 : decode cL_law 1494 = .ok (.iconst 4, 1) := dk7 hL_law_1494
theorem hL_law_1495 : cL_law.data.toList.drop 1495 = sL_law_1495 := dn1 hL_law_1494
theorem dL_law_1495 : decode cL_law 1495 = .ok (.iadd, 1) := dk96 hL_law_1495
theorem hL_law_1496 : cL_law.data.toList.drop 1496 = sL_law_1496 := dn1 hL_law_1495
theorem dL_law_1496 : decode cL_law 1496 = .ok (.iaload, 1) := dk46 hL_law_1496
theorem hL_law_1497 : cL_law.data.toList.drop 1497 = sL_law_1497 := dn1 hL_law_1496
theorem dL_law_1497 : decode cL_law 1497 = .ok (.ifCond .eq 7, 3) := dk153 hL_law_1497 (by decide)
theorem hL_law_1500 : cL_law.data.toList.drop 1500 = sL_law_1500 := dn3 hL_law_1497
theorem dL_law_1500 : decode cL_law 1500 = .ok (.iconst 1, 1) := dk4 hL_law_1500
theorem hL_law_1501 : cL_law.data.toList.drop 1501 = sL_law_1501 := dn1 hL_law_1500
theorem dL_law_1501 : decode cL_law 1501 = .ok (.goto 4, 3) := dk167 hL_law_1501 (by decide)
theorem hL_law_1504 : cL_law.data.toList.drop 1504 = sL_law_1504 := dn3 hL_law_1501
theorem dL_law_1504 : decode cL_law 1504 = .ok (.iconst 0, 1) := dk3 hL_law_1504
theorem hL_law_1505 : cL_law.data.toList.drop 1505 = sL_law_1505 := dn1 hL_law_1504
theorem dL_law_1505 : decode cL_law 1505 = .ok (.invokevirtual 201, 3) := dk182 hL_law_1505 rfl
theorem hL_law_1508 : cL_law.data.toList.drop 1508 = sL_law_1508 := dn3 hL_law_1505
theorem dL_law_1508 : decode cL_law 1508 = .ok (.pop, 1) := dk87 hL_law_1508
theorem hL_law_1509 : cL_law.data.toList.drop 1509 = sL_law_1509 := dn1 hL_law_1508
theorem dL_law_1509 : decode cL_law 1509 = .ok (.goto 318, 3) := dk167 hL_law_1509 (by decide)
theorem hL_law_1512 : cL_law.data.toList.drop 1512 = sL_law_1512 := dn3 hL_law_1509
theorem dL_law_1512 : decode cL_law 1512 = .ok (.aload_n 1, 1) := dk43 hL_law_1512
theorem hL_law_1513 : cL_law.data.toList.drop 1513 = sL_law_1513 := dn1 hL_law_1512
theorem dL_law_1513 : decode cL_law 1513 = .ok (.aload_n 0, 1) := dk42 hL_law_1513
theorem hL_law_1514 : cL_law.data.toList.drop 1514 = sL_law_1514 := dn1 hL_law_1513
theorem dL_law_1514 : decode cL_law 1514 = .ok (.iload 4, 2) := dk21 hL_law_1514 rfl
theorem hL_law_1516 : cL_law.data.toList.drop 1516 = sL_law_1516 := dn2 hL_law_1514
theorem dL_law_1516 : decode cL_law 1516 = .ok (.iconst 1, 1) := dk4 hL_law_1516
theorem hL_law_1517 : cL_law.data.toList.drop 1517 = sL_law_1517 := dn1 hL_law_1516
theorem dL_law_1517 : decode cL_law 1517 = .ok (.iadd, 1) := dk96 hL_law_1517
theorem hL_law_1518 : cL_law.data.toList.drop 1518 = sL_law_1518 := dn1 hL_law_1517
theorem dL_law_1518 : decode cL_law 1518 = .ok (.iaload, 1) := dk46 hL_law_1518
theorem hL_law_1519 : cL_law.data.toList.drop 1519 = sL_law_1519 := dn1 hL_law_1518
theorem dL_law_1519 : decode cL_law 1519 = .ok (.invokevirtual 202, 3) := dk182 hL_law_1519 rfl
theorem hL_law_1522 : cL_law.data.toList.drop 1522 = sL_law_1522 := dn3 hL_law_1519
theorem dL_law_1522 : decode cL_law 1522 = .ok (.pop, 1) := dk87 hL_law_1522
theorem hL_law_1523 : cL_law.data.toList.drop 1523 = sL_law_1523 := dn1 hL_law_1522
theorem dL_law_1523 : decode cL_law 1523 = .ok (.aload_n 2, 1) := dk44 hL_law_1523
theorem hL_law_1524 : cL_law.data.toList.drop 1524 = sL_law_1524 := dn1 hL_law_1523
theorem dL_law_1524 : decode cL_law 1524 = .ok (.aload_n 0, 1) := dk42 hL_law_1524
theorem hL_law_1525 : cL_law.data.toList.drop 1525 = sL_law_1525 := dn1 hL_law_1524
theorem dL_law_1525 : decode cL_law 1525 = .ok (.iload 4, 2) := dk21 hL_law_1525 rfl
theorem hL_law_1527 : cL_law.data.toList.drop 1527 = sL_law_1527 := dn2 hL_law_1525
theorem dL_law_1527 : decode cL_law 1527 = .ok (.iconst 1, 1) := dk4 hL_law_1527
theorem hL_law_1528 : cL_law.data.toList.drop 1528 = sL_law_1528 := dn1 hL_law_1527
theorem dL_law_1528 : decode cL_law 1528 = .ok (.iadd, 1) := dk96 hL_law_1528
theorem hL_law_1529 : cL_law.data.toList.drop 1529 = sL_law_1529 := dn1 hL_law_1528
theorem dL_law_1529 : decode cL_law 1529 = .ok (.iaload, 1) := dk46 hL_law_1529
theorem hL_law_1530 : cL_law.data.toList.drop 1530 = sL_law_1530 := dn1 hL_law_1529
theorem dL_law_1530 : decode cL_law 1530 = .ok (.invokevirtual 205, 3) := dk182 hL_law_1530 rfl
theorem hL_law_1533 : cL_law.data.toList.drop 1533 = sL_law_1533 := dn3 hL_law_1530
theorem dL_law_1533 : decode cL_law 1533 = .ok (.pop, 1) := dk87 hL_law_1533
theorem hL_law_1534 : cL_law.data.toList.drop 1534 = sL_law_1534 := dn1 hL_law_1533
theorem dL_law_1534 : decode cL_law 1534 = .ok (.goto 293, 3) := dk167 hL_law_1534 (by decide)
theorem hL_law_1537 : cL_law.data.toList.drop 1537 = sL_law_1537 := dn3 hL_law_1534
theorem dL_law_1537 : decode cL_law 1537 = .ok (.aload_n 1, 1) := dk43 hL_law_1537
theorem hL_law_1538 : cL_law.data.toList.drop 1538 = sL_law_1538 := dn1 hL_law_1537
theorem dL_law_1538 : decode cL_law 1538 = .ok (.aload_n 0, 1) := dk42 hL_law_1538
theorem hL_law_1539 : cL_law.data.toList.drop 1539 = sL_law_1539 := dn1 hL_law_1538
theorem dL_law_1539 : decode cL_law 1539 = .ok (.iload 4, 2) := dk21 hL_law_1539 rfl
theorem hL_law_1541 : cL_law.data.toList.drop 1541 = sL_law_1541 := dn2 hL_law_1539
theorem dL_law_1541 : decode cL_law 1541 = .ok (.iconst 1, 1) := dk4 hL_law_1541
theorem hL_law_1542 : cL_law.data.toList.drop 1542 = sL_law_1542 := dn1 hL_law_1541
theorem dL_law_1542 : decode cL_law 1542 = .ok (.iadd, 1) := dk96 hL_law_1542
theorem hL_law_1543 : cL_law.data.toList.drop 1543 = sL_law_1543 := dn1 hL_law_1542
theorem dL_law_1543 : decode cL_law 1543 = .ok (.iaload, 1) := dk46 hL_law_1543
theorem hL_law_1544 : cL_law.data.toList.drop 1544 = sL_law_1544 := dn1 hL_law_1543
theorem dL_law_1544 : decode cL_law 1544 = .ok (.invokevirtual 206, 3) := dk182 hL_law_1544 rfl
theorem hL_law_1547 : cL_law.data.toList.drop 1547 = sL_law_1547 := dn3 hL_law_1544
theorem dL_law_1547 : decode cL_law 1547 = .ok (.pop, 1) := dk87 hL_law_1547
theorem hL_law_1548 : cL_law.data.toList.drop 1548 = sL_law_1548 := dn1 hL_law_1547
theorem dL_law_1548 : decode cL_law 1548 = .ok (.aload_n 2, 1) := dk44 hL_law_1548
theorem hL_law_1549 : cL_law.data.toList.drop 1549 = sL_law_1549 := dn1 hL_law_1548
theorem dL_law_1549 : decode cL_law 1549 = .ok (.aload_n 0, 1) := dk42 hL_law_1549
theorem hL_law_1550 : cL_law.data.toList.drop 1550 = sL_law_1550 := dn1 hL_law_1549
theorem dL_law_1550 : decode cL_law 1550 = .ok (.iload 4, 2) := dk21 hL_law_1550 rfl
theorem hL_law_1552 : cL_law.data.toList.drop 1552 = sL_law_1552 := dn2 hL_law_1550
theorem dL_law_1552 : decode cL_law 1552 = .ok (.iconst 1, 1) := dk4 hL_law_1552
theorem hL_law_1553 : cL_law.data.toList.drop 1553 = sL_law_1553 := dn1 hL_law_1552
theorem dL_law_1553 : decode cL_law 1553 = .ok (.iadd, 1) := dk96 hL_law_1553
theorem hL_law_1554 : cL_law.data.toList.drop 1554 = sL_law_1554 := dn1 hL_law_1553
theorem dL_law_1554 : decode cL_law 1554 = .ok (.iaload, 1) := dk46 hL_law_1554
theorem hL_law_1555 : cL_law.data.toList.drop 1555 = sL_law_1555 := dn1 hL_law_1554
theorem dL_law_1555 : decode cL_law 1555 = .ok (.invokevirtual 209, 3) := dk182 hL_law_1555 rfl
theorem hL_law_1558 : cL_law.data.toList.drop 1558 = sL_law_1558 := dn3 hL_law_1555
theorem dL_law_1558 : decode cL_law 1558 = .ok (.pop, 1) := dk87 hL_law_1558
theorem hL_law_1559 : cL_law.data.toList.drop 1559 = sL_law_1559 := dn1 hL_law_1558
theorem dL_law_1559 : decode cL_law 1559 = .ok (.goto 268, 3) := dk167 hL_law_1559 (by decide)
theorem hL_law_1562 : cL_law.data.toList.drop 1562 = sL_law_1562 := dn3 hL_law_1559
theorem dL_law_1562 : decode cL_law 1562 = .ok (.aload_n 1, 1) := dk43 hL_law_1562
theorem hL_law_1563 : cL_law.data.toList.drop 1563 = sL_law_1563 := dn1 hL_law_1562
theorem dL_law_1563 : decode cL_law 1563 = .ok (.aload_n 0, 1) := dk42 hL_law_1563
theorem hL_law_1564 : cL_law.data.toList.drop 1564 = sL_law_1564 := dn1 hL_law_1563
theorem dL_law_1564 : decode cL_law 1564 = .ok (.iload 4, 2) := dk21 hL_law_1564 rfl
theorem hL_law_1566 : cL_law.data.toList.drop 1566 = sL_law_1566 := dn2 hL_law_1564
theorem dL_law_1566 : decode cL_law 1566 = .ok (.iconst 1, 1) := dk4 hL_law_1566
theorem hL_law_1567 : cL_law.data.toList.drop 1567 = sL_law_1567 := dn1 hL_law_1566
theorem dL_law_1567 : decode cL_law 1567 = .ok (.iadd, 1) := dk96 hL_law_1567
theorem hL_law_1568 : cL_law.data.toList.drop 1568 = sL_law_1568 := dn1 hL_law_1567
theorem dL_law_1568 : decode cL_law 1568 = .ok (.iaload, 1) := dk46 hL_law_1568
theorem hL_law_1569 : cL_law.data.toList.drop 1569 = sL_law_1569 := dn1 hL_law_1568
theorem dL_law_1569 : decode cL_law 1569 = .ok (.aload_n 0, 1) := dk42 hL_law_1569
theorem hL_law_1570 : cL_law.data.toList.drop 1570 = sL_law_1570 := dn1 hL_law_1569
theorem dL_law_1570 : decode cL_law 1570 = .ok (.iload 4, 2) := dk21 hL_law_1570 rfl
theorem hL_law_1572 : cL_law.data.toList.drop 1572 = sL_law_1572 := dn2 hL_law_1570
theorem dL_law_1572 : decode cL_law 1572 = .ok (.iconst 2, 1) := dk5 hL_law_1572
theorem hL_law_1573 : cL_law.data.toList.drop 1573 = sL_law_1573 := dn1 hL_law_1572
theorem dL_law_1573 : decode cL_law 1573 = .ok (.iadd, 1) := dk96 hL_law_1573
theorem hL_law_1574 : cL_law.data.toList.drop 1574 = sL_law_1574 := dn1 hL_law_1573
theorem dL_law_1574 : decode cL_law 1574 = .ok (.iaload, 1) := dk46 hL_law_1574
theorem hL_law_1575 : cL_law.data.toList.drop 1575 = sL_law_1575 := dn1 hL_law_1574
theorem dL_law_1575 : decode cL_law 1575 = .ok (.invokevirtual 210, 3) := dk182 hL_law_1575 rfl
theorem hL_law_1578 : cL_law.data.toList.drop 1578 = sL_law_1578 := dn3 hL_law_1575
theorem dL_law_1578 : decode cL_law 1578 = .ok (.pop, 1) := dk87 hL_law_1578
theorem hL_law_1579 : cL_law.data.toList.drop 1579 = sL_law_1579 := dn1 hL_law_1578
theorem dL_law_1579 : decode cL_law 1579 = .ok (.aload_n 2, 1) := dk44 hL_law_1579
theorem hL_law_1580 : cL_law.data.toList.drop 1580 = sL_law_1580 := dn1 hL_law_1579
theorem dL_law_1580 : decode cL_law 1580 = .ok (.aload_n 0, 1) := dk42 hL_law_1580
theorem hL_law_1581 : cL_law.data.toList.drop 1581 = sL_law_1581 := dn1 hL_law_1580
theorem dL_law_1581 : decode cL_law 1581 = .ok (.iload 4, 2) := dk21 hL_law_1581 rfl
theorem hL_law_1583 : cL_law.data.toList.drop 1583 = sL_law_1583 := dn2 hL_law_1581
theorem dL_law_1583 : decode cL_law 1583 = .ok (.iconst 1, 1) := dk4 hL_law_1583
theorem hL_law_1584 : cL_law.data.toList.drop 1584 = sL_law_1584 := dn1 hL_law_1583
theorem dL_law_1584 : decode cL_law 1584 = .ok (.iadd, 1) := dk96 hL_law_1584
theorem hL_law_1585 : cL_law.data.toList.drop 1585 = sL_law_1585 := dn1 hL_law_1584
theorem dL_law_1585 : decode cL_law 1585 = .ok (.iaload, 1) := dk46 hL_law_1585
theorem hL_law_1586 : cL_law.data.toList.drop 1586 = sL_law_1586 := dn1 hL_law_1585
theorem dL_law_1586 : decode cL_law 1586 = .ok (.aload_n 0, 1) := dk42 hL_law_1586
theorem hL_law_1587 : cL_law.data.toList.drop 1587 = sL_law_1587 := dn1 hL_law_1586
theorem dL_law_1587 : decode cL_law 1587 = .ok (.iload 4, 2) := dk21 hL_law_1587 rfl
theorem hL_law_1589 : cL_law.data.toList.drop 1589 = sL_law_1589 := dn2 hL_law_1587
theorem dL_law_1589 : decode cL_law 1589 = .ok (.iconst 2, 1) := dk5 hL_law_1589
theorem hL_law_1590 : cL_law.data.toList.drop 1590 = sL_law_1590 := dn1 hL_law_1589
theorem dL_law_1590 : decode cL_law 1590 = .ok (.iadd, 1) := dk96 hL_law_1590
theorem hL_law_1591 : cL_law.data.toList.drop 1591 = sL_law_1591 := dn1 hL_law_1590
theorem dL_law_1591 : decode cL_law 1591 = .ok (.iaload, 1) := dk46 hL_law_1591
theorem hL_law_1592 : cL_law.data.toList.drop 1592 = sL_law_1592 := dn1 hL_law_1591
theorem dL_law_1592 : decode cL_law 1592 = .ok (.invokevirtual 213, 3) := dk182 hL_law_1592 rfl
theorem hL_law_1595 : cL_law.data.toList.drop 1595 = sL_law_1595 := dn3 hL_law_1592
theorem dL_law_1595 : decode cL_law 1595 = .ok (.pop, 1) := dk87 hL_law_1595
theorem hL_law_1596 : cL_law.data.toList.drop 1596 = sL_law_1596 := dn1 hL_law_1595
theorem dL_law_1596 : decode cL_law 1596 = .ok (.goto 231, 3) := dk167 hL_law_1596 (by decide)
theorem hL_law_1599 : cL_law.data.toList.drop 1599 = sL_law_1599 := dn3 hL_law_1596
theorem dL_law_1599 : decode cL_law 1599 = .ok (.aload_n 1, 1) := dk43 hL_law_1599
theorem hL_law_1600 : cL_law.data.toList.drop 1600 = sL_law_1600 := dn1 hL_law_1599
theorem dL_law_1600 : decode cL_law 1600 = .ok (.aload_n 0, 1) := dk42 hL_law_1600
theorem hL_law_1601 : cL_law.data.toList.drop 1601 = sL_law_1601 := dn1 hL_law_1600
theorem dL_law_1601 : decode cL_law 1601 = .ok (.iload 4, 2) := dk21 hL_law_1601 rfl
theorem hL_law_1603 : cL_law.data.toList.drop 1603 = sL_law_1603 := dn2 hL_law_1601
theorem dL_law_1603 : decode cL_law 1603 = .ok (.iconst 1, 1) := dk4 hL_law_1603
theorem hL_law_1604 : cL_law.data.toList.drop 1604 = sL_law_1604 := dn1 hL_law_1603
theorem dL_law_1604 : decode cL_law 1604 = .ok (.iadd, 1) := dk96 hL_law_1604
theorem hL_law_1605 : cL_law.data.toList.drop 1605 = sL_law_1605 := dn1 hL_law_1604
theorem dL_law_1605 : decode cL_law 1605 = .ok (.iaload, 1) := dk46 hL_law_1605
theorem hL_law_1606 : cL_law.data.toList.drop 1606 = sL_law_1606 := dn1 hL_law_1605
theorem dL_law_1606 : decode cL_law 1606 = .ok (.aload_n 0, 1) := dk42 hL_law_1606
theorem hL_law_1607 : cL_law.data.toList.drop 1607 = sL_law_1607 := dn1 hL_law_1606
theorem dL_law_1607 : decode cL_law 1607 = .ok (.iload 4, 2) := dk21 hL_law_1607 rfl
theorem hL_law_1609 : cL_law.data.toList.drop 1609 = sL_law_1609 := dn2 hL_law_1607
theorem dL_law_1609 : decode cL_law 1609 = .ok (.iconst 2, 1) := dk5 hL_law_1609
theorem hL_law_1610 : cL_law.data.toList.drop 1610 = sL_law_1610 := dn1 hL_law_1609
theorem dL_law_1610 : decode cL_law 1610 = .ok (.iadd, 1) := dk96 hL_law_1610
theorem hL_law_1611 : cL_law.data.toList.drop 1611 = sL_law_1611 := dn1 hL_law_1610
theorem dL_law_1611 : decode cL_law 1611 = .ok (.iaload, 1) := dk46 hL_law_1611
theorem hL_law_1612 : cL_law.data.toList.drop 1612 = sL_law_1612 := dn1 hL_law_1611
theorem dL_law_1612 : decode cL_law 1612 = .ok (.invokevirtual 214, 3) := dk182 hL_law_1612 rfl
theorem hL_law_1615 : cL_law.data.toList.drop 1615 = sL_law_1615 := dn3 hL_law_1612
theorem dL_law_1615 : decode cL_law 1615 = .ok (.pop, 1) := dk87 hL_law_1615
theorem hL_law_1616 : cL_law.data.toList.drop 1616 = sL_law_1616 := dn1 hL_law_1615
theorem dL_law_1616 : decode cL_law 1616 = .ok (.aload_n 2, 1) := dk44 hL_law_1616
theorem hL_law_1617 : cL_law.data.toList.drop 1617 = sL_law_1617 := dn1 hL_law_1616
theorem dL_law_1617 : decode cL_law 1617 = .ok (.aload_n 0, 1) := dk42 hL_law_1617
theorem hL_law_1618 : cL_law.data.toList.drop 1618 = sL_law_1618 := dn1 hL_law_1617
theorem dL_law_1618 : decode cL_law 1618 = .ok (.iload 4, 2) := dk21 hL_law_1618 rfl
theorem hL_law_1620 : cL_law.data.toList.drop 1620 = sL_law_1620 := dn2 hL_law_1618
theorem dL_law_1620 : decode cL_law 1620 = .ok (.iconst 1, 1) := dk4 hL_law_1620
theorem hL_law_1621 : cL_law.data.toList.drop 1621 = sL_law_1621 := dn1 hL_law_1620
theorem dL_law_1621 : decode cL_law 1621 = .ok (.iadd, 1) := dk96 hL_law_1621
theorem hL_law_1622 : cL_law.data.toList.drop 1622 = sL_law_1622 := dn1 hL_law_1621
theorem dL_law_1622 : decode cL_law 1622 = .ok (.iaload, 1) := dk46 hL_law_1622
theorem hL_law_1623 : cL_law.data.toList.drop 1623 = sL_law_1623 := dn1 hL_law_1622
theorem dL_law_1623 : decode cL_law 1623 = .ok (.aload_n 0, 1) := dk42 hL_law_1623
theorem hL_law_1624 : cL_law.data.toList.drop 1624 = sL_law_1624 := dn1 hL_law_1623
theorem dL_law_1624 : decode cL_law 1624 = .ok (.iload 4, 2) := dk21 hL_law_1624 rfl
theorem hL_law_1626 : cL_law.data.toList.drop 1626 = sL_law_1626 := dn2 hL_law_1624
theorem dL_law_1626 : decode cL_law 1626 = .ok (.iconst 2, 1) := dk5 hL_law_1626
theorem hL_law_1627 : cL_law.data.toList.drop 1627 = sL_law_1627 := dn1 hL_law_1626
theorem dL_law_1627 : decode cL_law 1627 = .ok (.iadd, 1) := dk96 hL_law_1627
theorem hL_law_1628 : cL_law.data.toList.drop 1628 = sL_law_1628 := dn1 hL_law_1627
theorem dL_law_1628 : decode cL_law 1628 = .ok (.iaload, 1) := dk46 hL_law_1628
theorem hL_law_1629 : cL_law.data.toList.drop 1629 = sL_law_1629 := dn1 hL_law_1628
theorem dL_law_1629 : decode cL_law 1629 = .ok (.invokevirtual 217, 3) := dk182 hL_law_1629 rfl
theorem hL_law_1632 : cL_law.data.toList.drop 1632 = sL_law_1632 := dn3 hL_law_1629
theorem dL_law_1632 : decode cL_law 1632 = .ok (.pop, 1) := dk87 hL_law_1632
theorem hL_law_1633 : cL_law.data.toList.drop 1633 = sL_law_1633 := dn1 hL_law_1632
theorem dL_law_1633 : decode cL_law 1633 = .ok (.goto 194, 3) := dk167 hL_law_1633 (by decide)
theorem hL_law_1636 : cL_law.data.toList.drop 1636 = sL_law_1636 := dn3 hL_law_1633
theorem dL_law_1636 : decode cL_law 1636 = .ok (.aload_n 1, 1) := dk43 hL_law_1636
theorem hL_law_1637 : cL_law.data.toList.drop 1637 = sL_law_1637 := dn1 hL_law_1636
theorem dL_law_1637 : decode cL_law 1637 = .ok (.aload_n 0, 1) := dk42 hL_law_1637
theorem hL_law_1638 : cL_law.data.toList.drop 1638 = sL_law_1638 := dn1 hL_law_1637
theorem dL_law_1638 : decode cL_law 1638 = .ok (.iload 4, 2) := dk21 hL_law_1638 rfl
theorem hL_law_1640 : cL_law.data.toList.drop 1640 = sL_law_1640 := dn2 hL_law_1638
theorem dL_law_1640 : decode cL_law 1640 = .ok (.iconst 1, 1) := dk4 hL_law_1640
theorem hL_law_1641 : cL_law.data.toList.drop 1641 = sL_law_1641 := dn1 hL_law_1640
theorem dL_law_1641 : decode cL_law 1641 = .ok (.iadd, 1) := dk96 hL_law_1641
theorem hL_law_1642 : cL_law.data.toList.drop 1642 = sL_law_1642 := dn1 hL_law_1641
theorem dL_law_1642 : decode cL_law 1642 = .ok (.iaload, 1) := dk46 hL_law_1642
theorem hL_law_1643 : cL_law.data.toList.drop 1643 = sL_law_1643 := dn1 hL_law_1642
theorem dL_law_1643 : decode cL_law 1643 = .ok (.aload_n 0, 1) := dk42 hL_law_1643
theorem hL_law_1644 : cL_law.data.toList.drop 1644 = sL_law_1644 := dn1 hL_law_1643
theorem dL_law_1644 : decode cL_law 1644 = .ok (.iload 4, 2) := dk21 hL_law_1644 rfl
theorem hL_law_1646 : cL_law.data.toList.drop 1646 = sL_law_1646 := dn2 hL_law_1644
theorem dL_law_1646 : decode cL_law 1646 = .ok (.iconst 2, 1) := dk5 hL_law_1646
theorem hL_law_1647 : cL_law.data.toList.drop 1647 = sL_law_1647 := dn1 hL_law_1646
theorem dL_law_1647 : decode cL_law 1647 = .ok (.iadd, 1) := dk96 hL_law_1647
theorem hL_law_1648 : cL_law.data.toList.drop 1648 = sL_law_1648 := dn1 hL_law_1647
theorem dL_law_1648 : decode cL_law 1648 = .ok (.iaload, 1) := dk46 hL_law_1648
theorem hL_law_1649 : cL_law.data.toList.drop 1649 = sL_law_1649 := dn1 hL_law_1648
theorem dL_law_1649 : decode cL_law 1649 = .ok (.invokevirtual 218, 3) := dk182 hL_law_1649 rfl
theorem hL_law_1652 : cL_law.data.toList.drop 1652 = sL_law_1652 := dn3 hL_law_1649
theorem dL_law_1652 : decode cL_law 1652 = .ok (.pop, 1) := dk87 hL_law_1652
theorem hL_law_1653 : cL_law.data.toList.drop 1653 = sL_law_1653 := dn1 hL_law_1652
theorem dL_law_1653 : decode cL_law 1653 = .ok (.aload_n 2, 1) := dk44 hL_law_1653
theorem hL_law_1654 : cL_law.data.toList.drop 1654 = sL_law_1654 := dn1 hL_law_1653
theorem dL_law_1654 : decode cL_law 1654 = .ok (.aload_n 0, 1) := dk42 hL_law_1654
theorem hL_law_1655 : cL_law.data.toList.drop 1655 = sL_law_1655 := dn1 hL_law_1654
theorem dL_law_1655 : decode cL_law 1655 = .ok (.iload 4, 2) := dk21 hL_law_1655 rfl
theorem hL_law_1657 : cL_law.data.toList.drop 1657 = sL_law_1657 := dn2 hL_law_1655
theorem dL_law_1657 : decode cL_law 1657 = .ok (.iconst 1, 1) := dk4 hL_law_1657
theorem hL_law_1658 : cL_law.data.toList.drop 1658 = sL_law_1658 := dn1 hL_law_1657
theorem dL_law_1658 : decode cL_law 1658 = .ok (.iadd, 1) := dk96 hL_law_1658
theorem hL_law_1659 : cL_law.data.toList.drop 1659 = sL_law_1659 := dn1 hL_law_1658
theorem dL_law_1659 : decode cL_law 1659 = .ok (.iaload, 1) := dk46 hL_law_1659
theorem hL_law_1660 : cL_law.data.toList.drop 1660 = sL_law_1660 := dn1 hL_law_1659
theorem dL_law_1660 : decode cL_law 1660 = .ok (.aload_n 0, 1) := dk42 hL_law_1660
theorem hL_law_1661 : cL_law.data.toList.drop 1661 = sL_law_1661 := dn1 hL_law_1660
theorem dL_law_1661 : decode cL_law 1661 = .ok (.iload 4, 2) := dk21 hL_law_1661 rfl
theorem hL_law_1663 : cL_law.data.toList.drop 1663 = sL_law_1663 := dn2 hL_law_1661
theorem dL_law_1663 : decode cL_law 1663 = .ok (.iconst 2, 1) := dk5 hL_law_1663
theorem hL_law_1664 : cL_law.data.toList.drop 1664 = sL_law_1664 := dn1 hL_law_1663
theorem dL_law_1664 : decode cL_law 1664 = .ok (.iadd, 1) := dk96 hL_law_1664
theorem hL_law_1665 : cL_law.data.toList.drop 1665 = sL_law_1665 := dn1 hL_law_1664
theorem dL_law_1665 : decode cL_law 1665 = .ok (.iaload, 1) := dk46 hL_law_1665
theorem hL_law_1666 : cL_law.data.toList.drop 1666 = sL_law_1666 := dn1 hL_law_1665
theorem dL_law_1666 : decode cL_law 1666 = .ok (.invokevirtual 222, 3) := dk182 hL_law_1666 rfl
theorem hL_law_1669 : cL_law.data.toList.drop 1669 = sL_law_1669 := dn3 hL_law_1666
theorem dL_law_1669 : decode cL_law 1669 = .ok (.pop, 1) := dk87 hL_law_1669
theorem hL_law_1670 : cL_law.data.toList.drop 1670 = sL_law_1670 := dn1 hL_law_1669
theorem dL_law_1670 : decode cL_law 1670 = .ok (.goto 157, 3) := dk167 hL_law_1670 (by decide)
theorem hL_law_1673 : cL_law.data.toList.drop 1673 = sL_law_1673 := dn3 hL_law_1670
theorem dL_law_1673 : decode cL_law 1673 = .ok (.aload_n 1, 1) := dk43 hL_law_1673
theorem hL_law_1674 : cL_law.data.toList.drop 1674 = sL_law_1674 := dn1 hL_law_1673
theorem dL_law_1674 : decode cL_law 1674 = .ok (.aload_n 0, 1) := dk42 hL_law_1674
theorem hL_law_1675 : cL_law.data.toList.drop 1675 = sL_law_1675 := dn1 hL_law_1674
theorem dL_law_1675 : decode cL_law 1675 = .ok (.iload 4, 2) := dk21 hL_law_1675 rfl
theorem hL_law_1677 : cL_law.data.toList.drop 1677 = sL_law_1677 := dn2 hL_law_1675
theorem dL_law_1677 : decode cL_law 1677 = .ok (.iconst 1, 1) := dk4 hL_law_1677
theorem hL_law_1678 : cL_law.data.toList.drop 1678 = sL_law_1678 := dn1 hL_law_1677
theorem dL_law_1678 : decode cL_law 1678 = .ok (.iadd, 1) := dk96 hL_law_1678
theorem hL_law_1679 : cL_law.data.toList.drop 1679 = sL_law_1679 := dn1 hL_law_1678
theorem dL_law_1679 : decode cL_law 1679 = .ok (.iaload, 1) := dk46 hL_law_1679
theorem hL_law_1680 : cL_law.data.toList.drop 1680 = sL_law_1680 := dn1 hL_law_1679
theorem dL_law_1680 : decode cL_law 1680 = .ok (.aload_n 0, 1) := dk42 hL_law_1680
theorem hL_law_1681 : cL_law.data.toList.drop 1681 = sL_law_1681 := dn1 hL_law_1680
theorem dL_law_1681 : decode cL_law 1681 = .ok (.iload 4, 2) := dk21 hL_law_1681 rfl
theorem hL_law_1683 : cL_law.data.toList.drop 1683 = sL_law_1683 := dn2 hL_law_1681
theorem dL_law_1683 : decode cL_law 1683 = .ok (.iconst 2, 1) := dk5 hL_law_1683
theorem hL_law_1684 : cL_law.data.toList.drop 1684 = sL_law_1684 := dn1 hL_law_1683
theorem dL_law_1684 : decode cL_law 1684 = .ok (.iadd, 1) := dk96 hL_law_1684
theorem hL_law_1685 : cL_law.data.toList.drop 1685 = sL_law_1685 := dn1 hL_law_1684
theorem dL_law_1685 : decode cL_law 1685 = .ok (.iaload, 1) := dk46 hL_law_1685
theorem hL_law_1686 : cL_law.data.toList.drop 1686 = sL_law_1686 := dn1 hL_law_1685
theorem dL_law_1686 : decode cL_law 1686 = .ok (.invokevirtual 223, 3) := dk182 hL_law_1686 rfl
theorem hL_law_1689 : cL_law.data.toList.drop 1689 = sL_law_1689 := dn3 hL_law_1686
theorem dL_law_1689 : decode cL_law 1689 = .ok (.pop, 1) := dk87 hL_law_1689
theorem hL_law_1690 : cL_law.data.toList.drop 1690 = sL_law_1690 := dn1 hL_law_1689
theorem dL_law_1690 : decode cL_law 1690 = .ok (.aload_n 2, 1) := dk44 hL_law_1690
theorem hL_law_1691 : cL_law.data.toList.drop 1691 = sL_law_1691 := dn1 hL_law_1690
theorem dL_law_1691 : decode cL_law 1691 = .ok (.aload_n 0, 1) := dk42 hL_law_1691
theorem hL_law_1692 : cL_law.data.toList.drop 1692 = sL_law_1692 := dn1 hL_law_1691
theorem dL_law_1692 : decode cL_law 1692 = .ok (.iload 4, 2) := dk21 hL_law_1692 rfl
theorem hL_law_1694 : cL_law.data.toList.drop 1694 = sL_law_1694 := dn2 hL_law_1692
theorem dL_law_1694 : decode cL_law 1694 = .ok (.iconst 1, 1) := dk4 hL_law_1694
theorem hL_law_1695 : cL_law.data.toList.drop 1695 = sL_law_1695 := dn1 hL_law_1694
theorem dL_law_1695 : decode cL_law 1695 = .ok (.iadd, 1) := dk96 hL_law_1695
theorem hL_law_1696 : cL_law.data.toList.drop 1696 = sL_law_1696 := dn1 hL_law_1695
theorem dL_law_1696 : decode cL_law 1696 = .ok (.iaload, 1) := dk46 hL_law_1696
theorem hL_law_1697 : cL_law.data.toList.drop 1697 = sL_law_1697 := dn1 hL_law_1696
theorem dL_law_1697 : decode cL_law 1697 = .ok (.aload_n 0, 1) := dk42 hL_law_1697
theorem hL_law_1698 : cL_law.data.toList.drop 1698 = sL_law_1698 := dn1 hL_law_1697
theorem dL_law_1698 : decode cL_law 1698 = .ok (.iload 4, 2) := dk21 hL_law_1698 rfl
theorem hL_law_1700 : cL_law.data.toList.drop 1700 = sL_law_1700 := dn2 hL_law_1698
theorem dL_law_1700 : decode cL_law 1700 = .ok (.iconst 2, 1) := dk5 hL_law_1700
theorem hL_law_1701 : cL_law.data.toList.drop 1701 = sL_law_1701 := dn1 hL_law_1700
theorem dL_law_1701 : decode cL_law 1701 = .ok (.iadd, 1) := dk96 hL_law_1701
theorem hL_law_1702 : cL_law.data.toList.drop 1702 = sL_law_1702 := dn1 hL_law_1701
theorem dL_law_1702 : decode cL_law 1702 = .ok (.iaload, 1) := dk46 hL_law_1702
theorem hL_law_1703 : cL_law.data.toList.drop 1703 = sL_law_1703 := dn1 hL_law_1702
theorem dL_law_1703 : decode cL_law 1703 = .ok (.invokevirtual 226, 3) := dk182 hL_law_1703 rfl
theorem hL_law_1706 : cL_law.data.toList.drop 1706 = sL_law_1706 := dn3 hL_law_1703
theorem dL_law_1706 : decode cL_law 1706 = .ok (.pop, 1) := dk87 hL_law_1706
theorem hL_law_1707 : cL_law.data.toList.drop 1707 = sL_law_1707 := dn1 hL_law_1706
theorem dL_law_1707 : decode cL_law 1707 = .ok (.goto 120, 3) := dk167 hL_law_1707 (by decide)
theorem hL_law_1710 : cL_law.data.toList.drop 1710 = sL_law_1710 := dn3 hL_law_1707
theorem dL_law_1710 : decode cL_law 1710 = .ok (.aload_n 1, 1) := dk43 hL_law_1710
theorem hL_law_1711 : cL_law.data.toList.drop 1711 = sL_law_1711 := dn1 hL_law_1710
theorem dL_law_1711 : decode cL_law 1711 = .ok (.invokevirtual 227, 3) := dk182 hL_law_1711 rfl
theorem hL_law_1714 : cL_law.data.toList.drop 1714 = sL_law_1714 := dn3 hL_law_1711
theorem dL_law_1714 : decode cL_law 1714 = .ok (.pop, 1) := dk87 hL_law_1714
theorem hL_law_1715 : cL_law.data.toList.drop 1715 = sL_law_1715 := dn1 hL_law_1714
theorem dL_law_1715 : decode cL_law 1715 = .ok (.aload_n 2, 1) := dk44 hL_law_1715
theorem hL_law_1716 : cL_law.data.toList.drop 1716 = sL_law_1716 := dn1 hL_law_1715
theorem dL_law_1716 : decode cL_law 1716 = .ok (.invokevirtual 231, 3) := dk182 hL_law_1716 rfl
theorem hL_law_1719 : cL_law.data.toList.drop 1719 = sL_law_1719 := dn3 hL_law_1716
theorem dL_law_1719 : decode cL_law 1719 = .ok (.pop, 1) := dk87 hL_law_1719
theorem hL_law_1720 : cL_law.data.toList.drop 1720 = sL_law_1720 := dn1 hL_law_1719
theorem dL_law_1720 : decode cL_law 1720 = .ok (.goto 107, 3) := dk167 hL_law_1720 (by decide)
theorem hL_law_1723 : cL_law.data.toList.drop 1723 = sL_law_1723 := dn3 hL_law_1720
theorem dL_law_1723 : decode cL_law 1723 = .ok (.aload_n 1, 1) := dk43 hL_law_1723
theorem hL_law_1724 : cL_law.data.toList.drop 1724 = sL_law_1724 := dn1 hL_law_1723
theorem dL_law_1724 : decode cL_law 1724 = .ok (.invokevirtual 232, 3) := dk182 hL_law_1724 rfl
theorem hL_law_1727 : cL_law.data.toList.drop 1727 = sL_law_1727 := dn3 hL_law_1724
theorem dL_law_1727 : decode cL_law 1727 = .ok (.pop, 1) := dk87 hL_law_1727
theorem hL_law_1728 : cL_law.data.toList.drop 1728 = sL_law_1728 := dn1 hL_law_1727
theorem dL_law_1728 : decode cL_law 1728 = .ok (.aload_n 2, 1) := dk44 hL_law_1728
theorem hL_law_1729 : cL_law.data.toList.drop 1729 = sL_law_1729 := dn1 hL_law_1728
theorem dL_law_1729 : decode cL_law 1729 = .ok (.invokevirtual 235, 3) := dk182 hL_law_1729 rfl
theorem hL_law_1732 : cL_law.data.toList.drop 1732 = sL_law_1732 := dn3 hL_law_1729
theorem dL_law_1732 : decode cL_law 1732 = .ok (.pop, 1) := dk87 hL_law_1732
theorem hL_law_1733 : cL_law.data.toList.drop 1733 = sL_law_1733 := dn1 hL_law_1732
theorem dL_law_1733 : decode cL_law 1733 = .ok (.goto 94, 3) := dk167 hL_law_1733 (by decide)
theorem hL_law_1736 : cL_law.data.toList.drop 1736 = sL_law_1736 := dn3 hL_law_1733
theorem dL_law_1736 : decode cL_law 1736 = .ok (.aload_n 1, 1) := dk43 hL_law_1736
theorem hL_law_1737 : cL_law.data.toList.drop 1737 = sL_law_1737 := dn1 hL_law_1736
theorem dL_law_1737 : decode cL_law 1737 = .ok (.aload_n 0, 1) := dk42 hL_law_1737
theorem hL_law_1738 : cL_law.data.toList.drop 1738 = sL_law_1738 := dn1 hL_law_1737
theorem dL_law_1738 : decode cL_law 1738 = .ok (.iload 4, 2) := dk21 hL_law_1738 rfl
theorem hL_law_1740 : cL_law.data.toList.drop 1740 = sL_law_1740 := dn2 hL_law_1738
theorem dL_law_1740 : decode cL_law 1740 = .ok (.iconst 1, 1) := dk4 hL_law_1740
theorem hL_law_1741 : cL_law.data.toList.drop 1741 = sL_law_1741 := dn1 hL_law_1740
theorem dL_law_1741 : decode cL_law 1741 = .ok (.iadd, 1) := dk96 hL_law_1741
theorem hL_law_1742 : cL_law.data.toList.drop 1742 = sL_law_1742 := dn1 hL_law_1741
theorem dL_law_1742 : decode cL_law 1742 = .ok (.iaload, 1) := dk46 hL_law_1742
theorem hL_law_1743 : cL_law.data.toList.drop 1743 = sL_law_1743 := dn1 hL_law_1742
theorem dL_law_1743 : decode cL_law 1743 = .ok (.invokevirtual 236, 3) := dk182 hL_law_1743 rfl
theorem hL_law_1746 : cL_law.data.toList.drop 1746 = sL_law_1746 := dn3 hL_law_1743
theorem dL_law_1746 : decode cL_law 1746 = .ok (.pop, 1) := dk87 hL_law_1746
theorem hL_law_1747 : cL_law.data.toList.drop 1747 = sL_law_1747 := dn1 hL_law_1746
theorem dL_law_1747 : decode cL_law 1747 = .ok (.aload_n 2, 1) := dk44 hL_law_1747
theorem hL_law_1748 : cL_law.data.toList.drop 1748 = sL_law_1748 := dn1 hL_law_1747
theorem dL_law_1748 : decode cL_law 1748 = .ok (.aload_n 0, 1) := dk42 hL_law_1748
theorem hL_law_1749 : cL_law.data.toList.drop 1749 = sL_law_1749 := dn1 hL_law_1748
theorem dL_law_1749 : decode cL_law 1749 = .ok (.iload 4, 2) := dk21 hL_law_1749 rfl
theorem hL_law_1751 : cL_law.data.toList.drop 1751 = sL_law_1751 := dn2 hL_law_1749
theorem dL_law_1751 : decode cL_law 1751 = .ok (.iconst 1, 1) := dk4 hL_law_1751
theorem hL_law_1752 : cL_law.data.toList.drop 1752 = sL_law_1752 := dn1 hL_law_1751
theorem dL_law_1752 : decode cL_law 1752 = .ok (.iadd, 1) := dk96 hL_law_1752
theorem hL_law_1753 : cL_law.data.toList.drop 1753 = sL_law_1753 := dn1 hL_law_1752
theorem dL_law_1753 : decode cL_law 1753 = .ok (.iaload, 1) := dk46 hL_law_1753
theorem hL_law_1754 : cL_law.data.toList.drop 1754 = sL_law_1754 := dn1 hL_law_1753
theorem dL_law_1754 : decode cL_law 1754 = .ok (.invokevirtual 240, 3) := dk182 hL_law_1754 rfl
theorem hL_law_1757 : cL_law.data.toList.drop 1757 = sL_law_1757 := dn3 hL_law_1754
theorem dL_law_1757 : decode cL_law 1757 = .ok (.pop, 1) := dk87 hL_law_1757
theorem hL_law_1758 : cL_law.data.toList.drop 1758 = sL_law_1758 := dn1 hL_law_1757
theorem dL_law_1758 : decode cL_law 1758 = .ok (.goto 69, 3) := dk167 hL_law_1758 (by decide)
theorem hL_law_1761 : cL_law.data.toList.drop 1761 = sL_law_1761 := dn3 hL_law_1758
theorem dL_law_1761 : decode cL_law 1761 = .ok (.aload_n 1, 1) := dk43 hL_law_1761
theorem hL_law_1762 : cL_law.data.toList.drop 1762 = sL_law_1762 := dn1 hL_law_1761
theorem dL_law_1762 : decode cL_law 1762 = .ok (.aload_n 0, 1) := dk42 hL_law_1762
theorem hL_law_1763 : cL_law.data.toList.drop 1763 = sL_law_1763 := dn1 hL_law_1762
theorem dL_law_1763 : decode cL_law 1763 = .ok (.iload 4, 2) := dk21 hL_law_1763 rfl
theorem hL_law_1765 : cL_law.data.toList.drop 1765 = sL_law_1765 := dn2 hL_law_1763
theorem dL_law_1765 : decode cL_law 1765 = .ok (.iconst 1, 1) := dk4 hL_law_1765
theorem hL_law_1766 : cL_law.data.toList.drop 1766 = sL_law_1766 := dn1 hL_law_1765
theorem dL_law_1766 : decode cL_law 1766 = .ok (.iadd, 1) := dk96 hL_law_1766
theorem hL_law_1767 : cL_law.data.toList.drop 1767 = sL_law_1767 := dn1 hL_law_1766
theorem dL_law_1767 : decode cL_law 1767 = .ok (.iaload, 1) := dk46 hL_law_1767
theorem hL_law_1768 : cL_law.data.toList.drop 1768 = sL_law_1768 := dn1 hL_law_1767
theorem dL_law_1768 : decode cL_law 1768 = .ok (.aload_n 3, 1) := dk45 hL_law_1768
theorem hL_law_1769 : cL_law.data.toList.drop 1769 = sL_law_1769 := dn1 hL_law_1768
theorem dL_law_1769 : decode cL_law 1769 = .ok (.invokestatic 241, 3) := dk184 hL_law_1769 rfl
theorem hL_law_1772 : cL_law.data.toList.drop 1772 = sL_law_1772 := dn3 hL_law_1769
theorem dL_law_1772 : decode cL_law 1772 = .ok (.istore 5, 2) := dk54 hL_law_1772 rfl
theorem hL_law_1774 : cL_law.data.toList.drop 1774 = sL_law_1774 := dn2 hL_law_1772
theorem dL_law_1774 : decode cL_law 1774 = .ok (.aload_n 2, 1) := dk44 hL_law_1774
theorem hL_law_1775 : cL_law.data.toList.drop 1775 = sL_law_1775 := dn1 hL_law_1774
theorem dL_law_1775 : decode cL_law 1775 = .ok (.aload_n 0, 1) := dk42 hL_law_1775
theorem hL_law_1776 : cL_law.data.toList.drop 1776 = sL_law_1776 := dn1 hL_law_1775
theorem dL_law_1776 : decode cL_law 1776 = .ok (.iload 4, 2) := dk21 hL_law_1776 rfl
theorem hL_law_1778 : cL_law.data.toList.drop 1778 = sL_law_1778 := dn2 hL_law_1776
theorem dL_law_1778 : decode cL_law 1778 = .ok (.iconst 1, 1) := dk4 hL_law_1778
theorem hL_law_1779 : cL_law.data.toList.drop 1779 = sL_law_1779 := dn1 hL_law_1778
theorem dL_law_1779 : decode cL_law 1779 = .ok (.iadd, 1) := dk96 hL_law_1779
theorem hL_law_1780 : cL_law.data.toList.drop 1780 = sL_law_1780 := dn1 hL_law_1779
theorem dL_law_1780 : decode cL_law 1780 = .ok (.iaload, 1) := dk46 hL_law_1780
theorem hL_law_1781 : cL_law.data.toList.drop 1781 = sL_law_1781 := dn1 hL_law_1780
theorem dL_law_1781 : decode cL_law 1781 = .ok (.invokevirtual 246, 3) := dk182 hL_law_1781 rfl
theorem hL_law_1784 : cL_law.data.toList.drop 1784 = sL_law_1784 := dn3 hL_law_1781
theorem dL_law_1784 : decode cL_law 1784 = .ok (.istore 6, 2) := dk54 hL_law_1784 rfl
theorem hL_law_1786 : cL_law.data.toList.drop 1786 = sL_law_1786 := dn2 hL_law_1784
theorem dL_law_1786 : decode cL_law 1786 = .ok (.goto 41, 3) := dk167 hL_law_1786 (by decide)
theorem hL_law_1789 : cL_law.data.toList.drop 1789 = sL_law_1789 := dn3 hL_law_1786
theorem dL_law_1789 : decode cL_law 1789 = .ok (.aload_n 1, 1) := dk43 hL_law_1789
theorem hL_law_1790 : cL_law.data.toList.drop 1790 = sL_law_1790 := dn1 hL_law_1789
theorem dL_law_1790 : decode cL_law 1790 = .ok (.aload_n 0, 1) := dk42 hL_law_1790
theorem hL_law_1791 : cL_law.data.toList.drop 1791 = sL_law_1791 := dn1 hL_law_1790
theorem dL_law_1791 : decode cL_law 1791 = .ok (.iload 4, 2) := dk21 hL_law_1791 rfl
theorem hL_law_1793 : cL_law.data.toList.drop 1793 = sL_law_1793 := dn2 hL_law_1791
theorem dL_law_1793 : decode cL_law 1793 = .ok (.iconst 1, 1) := dk4 hL_law_1793
theorem hL_law_1794 : cL_law.data.toList.drop 1794 = sL_law_1794 := dn1 hL_law_1793
theorem dL_law_1794 : decode cL_law 1794 = .ok (.iadd, 1) := dk96 hL_law_1794
theorem hL_law_1795 : cL_law.data.toList.drop 1795 = sL_law_1795 := dn1 hL_law_1794
theorem dL_law_1795 : decode cL_law 1795 = .ok (.iaload, 1) := dk46 hL_law_1795
theorem hL_law_1796 : cL_law.data.toList.drop 1796 = sL_law_1796 := dn1 hL_law_1795
theorem dL_law_1796 : decode cL_law 1796 = .ok (.invokevirtual 247, 3) := dk182 hL_law_1796 rfl
theorem hL_law_1799 : cL_law.data.toList.drop 1799 = sL_law_1799 := dn3 hL_law_1796
theorem dL_law_1799 : decode cL_law 1799 = .ok (.pop, 1) := dk87 hL_law_1799
theorem hL_law_1800 : cL_law.data.toList.drop 1800 = sL_law_1800 := dn1 hL_law_1799
theorem dL_law_1800 : decode cL_law 1800 = .ok (.aload_n 2, 1) := dk44 hL_law_1800
theorem hL_law_1801 : cL_law.data.toList.drop 1801 = sL_law_1801 := dn1 hL_law_1800
theorem dL_law_1801 : decode cL_law 1801 = .ok (.aload_n 0, 1) := dk42 hL_law_1801
theorem hL_law_1802 : cL_law.data.toList.drop 1802 = sL_law_1802 := dn1 hL_law_1801
theorem dL_law_1802 : decode cL_law 1802 = .ok (.iload 4, 2) := dk21 hL_law_1802 rfl
theorem hL_law_1804 : cL_law.data.toList.drop 1804 = sL_law_1804 := dn2 hL_law_1802
theorem dL_law_1804 : decode cL_law 1804 = .ok (.iconst 1, 1) := dk4 hL_law_1804
theorem hL_law_1805 : cL_law.data.toList.drop 1805 = sL_law_1805 := dn1 hL_law_1804
theorem dL_law_1805 : decode cL_law 1805 = .ok (.iadd, 1) := dk96 hL_law_1805
theorem hL_law_1806 : cL_law.data.toList.drop 1806 = sL_law_1806 := dn1 hL_law_1805
theorem dL_law_1806 : decode cL_law 1806 = .ok (.iaload, 1) := dk46 hL_law_1806
theorem hL_law_1807 : cL_law.data.toList.drop 1807 = sL_law_1807 := dn1 hL_law_1806
theorem dL_law_1807 : decode cL_law 1807 = .ok (.invokevirtual 250, 3) := dk182 hL_law_1807 rfl
theorem hL_law_1810 : cL_law.data.toList.drop 1810 = sL_law_1810 := dn3 hL_law_1807
theorem dL_law_1810 : decode cL_law 1810 = .ok (.pop, 1) := dk87 hL_law_1810
theorem hL_law_1811 : cL_law.data.toList.drop 1811 = sL_law_1811 := dn1 hL_law_1810
theorem dL_law_1811 : decode cL_law 1811 = .ok (.goto 16, 3) := dk167 hL_law_1811 (by decide)
theorem hL_law_1814 : cL_law.data.toList.drop 1814 = sL_law_1814 := dn3 hL_law_1811
theorem dL_law_1814 : decode cL_law 1814 = .ok (.aload_n 1, 1) := dk43 hL_law_1814
theorem hL_law_1815 : cL_law.data.toList.drop 1815 = sL_law_1815 := dn1 hL_law_1814
theorem dL_law_1815 : decode cL_law 1815 = .ok (.invokevirtual 251, 3) := dk182 hL_law_1815 rfl
theorem hL_law_1818 : cL_law.data.toList.drop 1818 = sL_law_1818 := dn3 hL_law_1815
theorem dL_law_1818 : decode cL_law 1818 = .ok (.pop, 1) := dk87 hL_law_1818
theorem hL_law_1819 : cL_law.data.toList.drop 1819 = sL_law_1819 := dn1 hL_law_1818
theorem dL_law_1819 : decode cL_law 1819 = .ok (.aload_n 2, 1) := dk44 hL_law_1819
theorem hL_law_1820 : cL_law.data.toList.drop 1820 = sL_law_1820 := dn1 hL_law_1819
theorem dL_law_1820 : decode cL_law 1820 = .ok (.invokevirtual 254, 3) := dk182 hL_law_1820 rfl
theorem hL_law_1823 : cL_law.data.toList.drop 1823 = sL_law_1823 := dn3 hL_law_1820
theorem dL_law_1823 : decode cL_law 1823 = .ok (.pop, 1) := dk87 hL_law_1823
theorem hL_law_1824 : cL_law.data.toList.drop 1824 = sL_law_1824 := dn1 hL_law_1823
theorem dL_law_1824 : decode cL_law 1824 = .ok (.goto 3, 3) := dk167 hL_law_1824 (by decide)
theorem hL_law_1827 : cL_law.data.toList.drop 1827 = sL_law_1827 := dn3 hL_law_1824
theorem dL_law_1827 : decode cL_law 1827 = .ok (.iinc 4 6, 3) := dk132 hL_law_1827 rfl (by decide)
theorem hL_law_1830 : cL_law.data.toList.drop 1830 = sL_law_1830 := dn3 hL_law_1827
theorem dL_law_1830 : decode cL_law 1830 = .ok (.goto (-1807), 3) := dk167 hL_law_1830 (by decide)
theorem hL_law_1833 : cL_law.data.toList.drop 1833 = sL_law_1833 := dn3 hL_law_1830
theorem dL_law_1833 : decode cL_law 1833 = .ok (.iconst 1, 1) := dk4 hL_law_1833
theorem hL_law_1834 : cL_law.data.toList.drop 1834 = sL_law_1834 := dn1 hL_law_1833
theorem dL_law_1834 : decode cL_law 1834 = .ok (.ireturn, 1) := dk172 hL_law_1834
def sL_led_16 : List UInt8 := 172 :: []
def sL_led_15 : List UInt8 := 3 :: sL_led_16
def sL_led_14 : List UInt8 := 172 :: sL_led_15
def sL_led_13 : List UInt8 := 4 :: sL_led_14
def sL_led_12 : List UInt8 := 78 :: sL_led_13
def sL_led_9 : List UInt8 := 167 :: 0 :: 6 :: sL_led_12
def sL_led_8 : List UInt8 := 80 :: sL_led_9
def sL_led_7 : List UInt8 := 133 :: sL_led_8
def sL_led_4 : List UInt8 := 182 :: 0 :: 7 :: sL_led_7
def sL_led_3 : List UInt8 := 27 :: sL_led_4
def sL_led_2 : List UInt8 := 42 :: sL_led_3
def sL_led_1 : List UInt8 := 3 :: sL_led_2
def sL_led_0 : List UInt8 := 44 :: sL_led_1
set_option maxRecDepth 100000 in
theorem hL_led_0 : cL_led.data.toList.drop 0 = sL_led_0 := by decide +kernel
theorem dL_led_0 : decode cL_led 0 = .ok (.aload_n 2, 1) := dk44 hL_led_0
theorem hL_led_1 : cL_led.data.toList.drop 1 = sL_led_1 := dn1 hL_led_0
theorem dL_led_1 : decode cL_led 1 = .ok (.iconst 0, 1) := dk3 hL_led_1
theorem hL_led_2 : cL_led.data.toList.drop 2 = sL_led_2 := dn1 hL_led_1
theorem dL_led_2 : decode cL_led 2 = .ok (.aload_n 0, 1) := dk42 hL_led_2
theorem hL_led_3 : cL_led.data.toList.drop 3 = sL_led_3 := dn1 hL_led_2
theorem dL_led_3 : decode cL_led 3 = .ok (.iload_n 1, 1) := dk27 hL_led_3
theorem hL_led_4 : cL_led.data.toList.drop 4 = sL_led_4 := dn1 hL_led_3
theorem dL_led_4 : decode cL_led 4 = .ok (.invokevirtual 7, 3) := dk182 hL_led_4 rfl
theorem hL_led_7 : cL_led.data.toList.drop 7 = sL_led_7 := dn3 hL_led_4
theorem dL_led_7 : decode cL_led 7 = .ok (.i2l, 1) := dk133 hL_led_7
theorem hL_led_8 : cL_led.data.toList.drop 8 = sL_led_8 := dn1 hL_led_7
theorem dL_led_8 : decode cL_led 8 = .ok (.lastore, 1) := dk80 hL_led_8
theorem hL_led_9 : cL_led.data.toList.drop 9 = sL_led_9 := dn1 hL_led_8
theorem dL_led_9 : decode cL_led 9 = .ok (.goto 6, 3) := dk167 hL_led_9 (by decide)
theorem hL_led_12 : cL_led.data.toList.drop 12 = sL_led_12 := dn3 hL_led_9
theorem dL_led_12 : decode cL_led 12 = .ok (.astore_n 3, 1) := dk78 hL_led_12
theorem hL_led_13 : cL_led.data.toList.drop 13 = sL_led_13 := dn1 hL_led_12
theorem dL_led_13 : decode cL_led 13 = .ok (.iconst 1, 1) := dk4 hL_led_13
theorem hL_led_14 : cL_led.data.toList.drop 14 = sL_led_14 := dn1 hL_led_13
theorem dL_led_14 : decode cL_led 14 = .ok (.ireturn, 1) := dk172 hL_led_14
theorem hL_led_15 : cL_led.data.toList.drop 15 = sL_led_15 := dn1 hL_led_14
theorem dL_led_15 : decode cL_led 15 = .ok (.iconst 0, 1) := dk3 hL_led_15
theorem hL_led_16 : cL_led.data.toList.drop 16 = sL_led_16 := dn1 hL_led_15
theorem dL_led_16 : decode cL_led 16 = .ok (.ireturn, 1) := dk172 hL_led_16
