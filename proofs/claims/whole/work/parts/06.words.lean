def pCode (m : Nat) : Nat := bif Nat.blt m 176 then (bif Nat.blt m 88 then (bif Nat.blt m 44 then (bif Nat.blt m 22 then (bif Nat.blt m 11 then (bif Nat.blt m 5 then (bif Nat.blt m 2 then (bif Nat.blt m 1 then 551 else 812) else (bif Nat.blt m 3 then 190 else (bif Nat.blt m 4 then 434 else 430))) else (bif Nat.blt m 8 then (bif Nat.blt m 6 then 682 else (bif Nat.blt m 7 then 951 else 960)) else (bif Nat.blt m 9 then 547 else (bif Nat.blt m 10 then 584 else 969)))) else (bif Nat.blt m 16 then (bif Nat.blt m 13 then (bif Nat.blt m 12 then 294 else 747) else (bif Nat.blt m 14 then 865 else (bif Nat.blt m 15 then 873 else 904))) else (bif Nat.blt m 19 then (bif Nat.blt m 17 then 913 else (bif Nat.blt m 18 then 925 else 929)) else (bif Nat.blt m 20 then 934 else (bif Nat.blt m 21 then 939 else 943))))) else (bif Nat.blt m 33 then (bif Nat.blt m 27 then (bif Nat.blt m 24 then (bif Nat.blt m 23 then 696 else 711) else (bif Nat.blt m 25 then 738 else (bif Nat.blt m 26 then 716 else 720))) else (bif Nat.blt m 30 then (bif Nat.blt m 28 then 724 else (bif Nat.blt m 29 then 729 else 733)) else (bif Nat.blt m 31 then 501 else (bif Nat.blt m 32 then 856 else 380)))) else (bif Nat.blt m 38 then (bif Nat.blt m 35 then (bif Nat.blt m 34 then 410 else 438) else (bif Nat.blt m 36 then 418 else (bif Nat.blt m 37 then 687 else 446))) else (bif Nat.blt m 41 then (bif Nat.blt m 39 then 442 else (bif Nat.blt m 40 then 426 else 484)) else (bif Nat.blt m 42 then 414 else (bif Nat.blt m 43 then 450 else 454)))))) else (bif Nat.blt m 66 then (bif Nat.blt m 55 then (bif Nat.blt m 49 then (bif Nat.blt m 46 then (bif Nat.blt m 45 then 481 else 477) else (bif Nat.blt m 47 then 488 else (bif Nat.blt m 48 then 496 else 492))) else (bif Nat.blt m 52 then (bif Nat.blt m 50 then 589 else (bif Nat.blt m 51 then 580 else 601)) else (bif Nat.blt m 53 then 609 else (bif Nat.blt m 54 then 613 else 618)))) else (bif Nat.blt m 60 then (bif Nat.blt m 57 then (bif Nat.blt m 56 then 597 else 593) else (bif Nat.blt m 58 then 678 else (bif Nat.blt m 59 then 691 else 126))) else (bif Nat.blt m 63 then (bif Nat.blt m 61 then 163 else (bif Nat.blt m 62 then 423 else 605)) else (bif Nat.blt m 64 then 159 else (bif Nat.blt m 65 then 743 else 201))))) else (bif Nat.blt m 77 then (bif Nat.blt m 71 then (bif Nat.blt m 68 then (bif Nat.blt m 67 then 140 else 760) else (bif Nat.blt m 69 then 769 else (bif Nat.blt m 70 then 775 else 779))) else (bif Nat.blt m 74 then (bif Nat.blt m 72 then 787 else (bif Nat.blt m 73 then 824 else 791)) else (bif Nat.blt m 75 then 796 else (bif Nat.blt m 76 then 801 else 804)))) else (bif Nat.blt m 82 then (bif Nat.blt m 79 then (bif Nat.blt m 78 then 836 else 840) else (bif Nat.blt m 80 then 820 else (bif Nat.blt m 81 then 808 else 816))) else (bif Nat.blt m 85 then (bif Nat.blt m 83 then 459 else (bif Nat.blt m 84 then 148 else 764)) else (bif Nat.blt m 86 then 155 else (bif Nat.blt m 87 then 883 else 888))))))) else (bif Nat.blt m 132 then (bif Nat.blt m 110 then (bif Nat.blt m 99 then (bif Nat.blt m 93 then (bif Nat.blt m 90 then (bif Nat.blt m 89 then 877 else 869) else (bif Nat.blt m 91 then 892 else (bif Nat.blt m 92 then 896 else 783))) else (bif Nat.blt m 96 then (bif Nat.blt m 94 then 848 else (bif Nat.blt m 95 then 852 else 844)) else (bif Nat.blt m 97 then 860 else (bif Nat.blt m 98 then 828 else 832)))) else (bif Nat.blt m 104 then (bif Nat.blt m 101 then (bif Nat.blt m 100 then 118 else 369) else (bif Nat.blt m 102 then 375 else (bif Nat.blt m 103 then 751 else 755))) else (bif Nat.blt m 107 then (bif Nat.blt m 105 then 900 else (bif Nat.blt m 106 then 909 else 917)) else (bif Nat.blt m 108 then 921 else (bif Nat.blt m 109 then 947 else 956))))) else (bif Nat.blt m 121 then (bif Nat.blt m 115 then (bif Nat.blt m 112 then (bif Nat.blt m 111 then 964 else 974) else (bif Nat.blt m 113 then 979 else (bif Nat.blt m 114 then 1239 else 1243))) else (bif Nat.blt m 118 then (bif Nat.blt m 116 then 1267 else (bif Nat.blt m 117 then 1263 else 1271)) else (bif Nat.blt m 119 then 1279 else (bif Nat.blt m 120 then 1275 else 1315)))) else (bif Nat.blt m 126 then (bif Nat.blt m 123 then (bif Nat.blt m 122 then 1319 else 1307) else (bif Nat.blt m 124 then 1311 else (bif Nat.blt m 125 then 1299 else 1303))) else (bif Nat.blt m 129 then (bif Nat.blt m 127 then 1323 else (bif Nat.blt m 128 then 1295 else 1291)) else (bif Nat.blt m 130 then 1329 else (bif Nat.blt m 131 then 1287 else 1283)))))) else (bif Nat.blt m 154 then (bif Nat.blt m 143 then (bif Nat.blt m 137 then (bif Nat.blt m 134 then (bif Nat.blt m 133 then 1259 else 1255) else (bif Nat.blt m 135 then 1251 else (bif Nat.blt m 136 then 1247 else 1345))) else (bif Nat.blt m 140 then (bif Nat.blt m 138 then 1341 else (bif Nat.blt m 139 then 1337 else 1353)) else (bif Nat.blt m 141 then 1349 else (bif Nat.blt m 142 then 1333 else 1410)))) else (bif Nat.blt m 148 then (bif Nat.blt m 145 then (bif Nat.blt m 144 then 1426 else 1430) else (bif Nat.blt m 146 then 1414 else (bif Nat.blt m 147 then 1369 else 1381))) else (bif Nat.blt m 151 then (bif Nat.blt m 149 then 1377 else (bif Nat.blt m 150 then 1397 else 1406)) else (bif Nat.blt m 152 then 1402 else (bif Nat.blt m 153 then 1373 else 1385))))) else (bif Nat.blt m 165 then (bif Nat.blt m 159 then (bif Nat.blt m 156 then (bif Nat.blt m 155 then 1389 else 1393) else (bif Nat.blt m 157 then 1422 else (bif Nat.blt m 158 then 1418 else 1365))) else (bif Nat.blt m 162 then (bif Nat.blt m 160 then 1361 else (bif Nat.blt m 161 then 1434 else 1357)) else (bif Nat.blt m 163 then 1446 else (bif Nat.blt m 164 then 1450 else 1458)))) else (bif Nat.blt m 170 then (bif Nat.blt m 167 then (bif Nat.blt m 166 then 1454 else 1442) else (bif Nat.blt m 168 then 1438 else (bif Nat.blt m 169 then 1462 else 1466))) else (bif Nat.blt m 173 then (bif Nat.blt m 171 then 1470 else (bif Nat.blt m 172 then 1474 else 1479)) else (bif Nat.blt m 174 then 207 else (bif Nat.blt m 175 then 204 else 0)))))))) else 0
def pInst (m : Nat) : Nat := bif Nat.blt m 176 then (bif Nat.blt m 88 then (bif Nat.blt m 44 then (bif Nat.blt m 22 then (bif Nat.blt m 11 then (bif Nat.blt m 5 then (bif Nat.blt m 2 then (bif Nat.blt m 1 then 550 else 810) else (bif Nat.blt m 3 then 189 else (bif Nat.blt m 4 then 432 else 428))) else (bif Nat.blt m 8 then (bif Nat.blt m 6 then 680 else (bif Nat.blt m 7 then 949 else 958)) else (bif Nat.blt m 9 then 545 else (bif Nat.blt m 10 then 582 else 967)))) else (bif Nat.blt m 16 then (bif Nat.blt m 13 then (bif Nat.blt m 12 then 293 else 745) else (bif Nat.blt m 14 then 863 else (bif Nat.blt m 15 then 872 else 902))) else (bif Nat.blt m 19 then (bif Nat.blt m 17 then 911 else (bif Nat.blt m 18 then 923 else 928)) else (bif Nat.blt m 20 then 933 else (bif Nat.blt m 21 then 938 else 942))))) else (bif Nat.blt m 33 then (bif Nat.blt m 27 then (bif Nat.blt m 24 then (bif Nat.blt m 23 then 695 else 709) else (bif Nat.blt m 25 then 737 else (bif Nat.blt m 26 then 715 else 719))) else (bif Nat.blt m 30 then (bif Nat.blt m 28 then 723 else (bif Nat.blt m 29 then 728 else 732)) else (bif Nat.blt m 31 then 500 else (bif Nat.blt m 32 then 854 else 379)))) else (bif Nat.blt m 38 then (bif Nat.blt m 35 then (bif Nat.blt m 34 then 408 else 437) else (bif Nat.blt m 36 then 417 else (bif Nat.blt m 37 then 686 else 445))) else (bif Nat.blt m 41 then (bif Nat.blt m 39 then 441 else (bif Nat.blt m 40 then 425 else 483)) else (bif Nat.blt m 42 then 413 else (bif Nat.blt m 43 then 449 else 453)))))) else (bif Nat.blt m 66 then (bif Nat.blt m 55 then (bif Nat.blt m 49 then (bif Nat.blt m 46 then (bif Nat.blt m 45 then 480 else 476) else (bif Nat.blt m 47 then 487 else (bif Nat.blt m 48 then 495 else 491))) else (bif Nat.blt m 52 then (bif Nat.blt m 50 then 588 else (bif Nat.blt m 51 then 579 else 600)) else (bif Nat.blt m 53 then 608 else (bif Nat.blt m 54 then 612 else 617)))) else (bif Nat.blt m 60 then (bif Nat.blt m 57 then (bif Nat.blt m 56 then 596 else 592) else (bif Nat.blt m 58 then 677 else (bif Nat.blt m 59 then 690 else 125))) else (bif Nat.blt m 63 then (bif Nat.blt m 61 then 161 else (bif Nat.blt m 62 then 421 else 603)) else (bif Nat.blt m 64 then 157 else (bif Nat.blt m 65 then 741 else 199))))) else (bif Nat.blt m 77 then (bif Nat.blt m 71 then (bif Nat.blt m 68 then (bif Nat.blt m 67 then 139 else 758) else (bif Nat.blt m 69 then 768 else (bif Nat.blt m 70 then 774 else 778))) else (bif Nat.blt m 74 then (bif Nat.blt m 72 then 786 else (bif Nat.blt m 73 then 823 else 790)) else (bif Nat.blt m 75 then 795 else (bif Nat.blt m 76 then 800 else 803)))) else (bif Nat.blt m 82 then (bif Nat.blt m 79 then (bif Nat.blt m 78 then 835 else 839) else (bif Nat.blt m 80 then 819 else (bif Nat.blt m 81 then 807 else 815))) else (bif Nat.blt m 85 then (bif Nat.blt m 83 then 458 else (bif Nat.blt m 84 then 147 else 762)) else (bif Nat.blt m 86 then 154 else (bif Nat.blt m 87 then 881 else 886))))))) else (bif Nat.blt m 132 then (bif Nat.blt m 110 then (bif Nat.blt m 99 then (bif Nat.blt m 93 then (bif Nat.blt m 90 then (bif Nat.blt m 89 then 875 else 867) else (bif Nat.blt m 91 then 890 else (bif Nat.blt m 92 then 894 else 781))) else (bif Nat.blt m 96 then (bif Nat.blt m 94 then 846 else (bif Nat.blt m 95 then 850 else 842)) else (bif Nat.blt m 97 then 858 else (bif Nat.blt m 98 then 826 else 831)))) else (bif Nat.blt m 104 then (bif Nat.blt m 101 then (bif Nat.blt m 100 then 117 else 367) else (bif Nat.blt m 102 then 373 else (bif Nat.blt m 103 then 749 else 753))) else (bif Nat.blt m 107 then (bif Nat.blt m 105 then 898 else (bif Nat.blt m 106 then 907 else 915)) else (bif Nat.blt m 108 then 919 else (bif Nat.blt m 109 then 945 else 954))))) else (bif Nat.blt m 121 then (bif Nat.blt m 115 then (bif Nat.blt m 112 then (bif Nat.blt m 111 then 962 else 972) else (bif Nat.blt m 113 then 978 else (bif Nat.blt m 114 then 1237 else 1241))) else (bif Nat.blt m 118 then (bif Nat.blt m 116 then 1266 else (bif Nat.blt m 117 then 1262 else 1270)) else (bif Nat.blt m 119 then 1278 else (bif Nat.blt m 120 then 1274 else 1314)))) else (bif Nat.blt m 126 then (bif Nat.blt m 123 then (bif Nat.blt m 122 then 1318 else 1306) else (bif Nat.blt m 124 then 1310 else (bif Nat.blt m 125 then 1298 else 1302))) else (bif Nat.blt m 129 then (bif Nat.blt m 127 then 1322 else (bif Nat.blt m 128 then 1294 else 1290)) else (bif Nat.blt m 130 then 1328 else (bif Nat.blt m 131 then 1286 else 1282)))))) else (bif Nat.blt m 154 then (bif Nat.blt m 143 then (bif Nat.blt m 137 then (bif Nat.blt m 134 then (bif Nat.blt m 133 then 1258 else 1254) else (bif Nat.blt m 135 then 1250 else (bif Nat.blt m 136 then 1245 else 1344))) else (bif Nat.blt m 140 then (bif Nat.blt m 138 then 1340 else (bif Nat.blt m 139 then 1336 else 1352)) else (bif Nat.blt m 141 then 1348 else (bif Nat.blt m 142 then 1332 else 1409)))) else (bif Nat.blt m 148 then (bif Nat.blt m 145 then (bif Nat.blt m 144 then 1425 else 1429) else (bif Nat.blt m 146 then 1413 else (bif Nat.blt m 147 then 1368 else 1380))) else (bif Nat.blt m 151 then (bif Nat.blt m 149 then 1376 else (bif Nat.blt m 150 then 1396 else 1405)) else (bif Nat.blt m 152 then 1401 else (bif Nat.blt m 153 then 1372 else 1384))))) else (bif Nat.blt m 165 then (bif Nat.blt m 159 then (bif Nat.blt m 156 then (bif Nat.blt m 155 then 1388 else 1392) else (bif Nat.blt m 157 then 1421 else (bif Nat.blt m 158 then 1417 else 1364))) else (bif Nat.blt m 162 then (bif Nat.blt m 160 then 1360 else (bif Nat.blt m 161 then 1433 else 1355)) else (bif Nat.blt m 163 then 1444 else (bif Nat.blt m 164 then 1448 else 1457)))) else (bif Nat.blt m 170 then (bif Nat.blt m 167 then (bif Nat.blt m 166 then 1452 else 1441) else (bif Nat.blt m 168 then 1437 else (bif Nat.blt m 169 then 1460 else 1464))) else (bif Nat.blt m 173 then (bif Nat.blt m 171 then 1468 else (bif Nat.blt m 172 then 1472 else 1477)) else (bif Nat.blt m 174 then 206 else (bif Nat.blt m 175 then 203 else 0)))))))) else 0
def pSel (m : Nat) : Nat := bif Nat.blt m 176 then (bif Nat.blt m 88 then (bif Nat.blt m 44 then (bif Nat.blt m 22 then (bif Nat.blt m 11 then (bif Nat.blt m 5 then (bif Nat.blt m 2 then (bif Nat.blt m 1 then 0 else 811) else (bif Nat.blt m 3 then 0 else (bif Nat.blt m 4 then 433 else 429))) else (bif Nat.blt m 8 then (bif Nat.blt m 6 then 681 else (bif Nat.blt m 7 then 950 else 959)) else (bif Nat.blt m 9 then 546 else (bif Nat.blt m 10 then 583 else 968)))) else (bif Nat.blt m 16 then (bif Nat.blt m 13 then (bif Nat.blt m 12 then 0 else 746) else (bif Nat.blt m 14 then 864 else (bif Nat.blt m 15 then 43 else 903))) else (bif Nat.blt m 19 then (bif Nat.blt m 17 then 912 else (bif Nat.blt m 18 then 924 else 44)) else (bif Nat.blt m 20 then 45 else (bif Nat.blt m 21 then 46 else 47))))) else (bif Nat.blt m 33 then (bif Nat.blt m 27 then (bif Nat.blt m 24 then (bif Nat.blt m 23 then 0 else 710) else (bif Nat.blt m 25 then 29 else (bif Nat.blt m 26 then 24 else 25))) else (bif Nat.blt m 30 then (bif Nat.blt m 28 then 26 else (bif Nat.blt m 29 then 27 else 28)) else (bif Nat.blt m 31 then 0 else (bif Nat.blt m 32 then 855 else 0)))) else (bif Nat.blt m 38 then (bif Nat.blt m 35 then (bif Nat.blt m 34 then 409 else 3) else (bif Nat.blt m 36 then 2 else (bif Nat.blt m 37 then 22 else 5))) else (bif Nat.blt m 41 then (bif Nat.blt m 39 then 4 else (bif Nat.blt m 40 then 0 else 0)) else (bif Nat.blt m 42 then 1 else (bif Nat.blt m 43 then 6 else 7)))))) else (bif Nat.blt m 66 then (bif Nat.blt m 55 then (bif Nat.blt m 49 then (bif Nat.blt m 46 then (bif Nat.blt m 45 then 9 else 8) else (bif Nat.blt m 47 then 10 else (bif Nat.blt m 48 then 12 else 11))) else (bif Nat.blt m 52 then (bif Nat.blt m 50 then 14 else (bif Nat.blt m 51 then 13 else 17)) else (bif Nat.blt m 53 then 18 else (bif Nat.blt m 54 then 19 else 20)))) else (bif Nat.blt m 60 then (bif Nat.blt m 57 then (bif Nat.blt m 56 then 16 else 15) else (bif Nat.blt m 58 then 21 else (bif Nat.blt m 59 then 23 else 0))) else (bif Nat.blt m 63 then (bif Nat.blt m 61 then 162 else (bif Nat.blt m 62 then 422 else 604)) else (bif Nat.blt m 64 then 158 else (bif Nat.blt m 65 then 742 else 200))))) else (bif Nat.blt m 77 then (bif Nat.blt m 71 then (bif Nat.blt m 68 then (bif Nat.blt m 67 then 0 else 759) else (bif Nat.blt m 69 then 30 else (bif Nat.blt m 70 then 31 else 32))) else (bif Nat.blt m 74 then (bif Nat.blt m 72 then 33 else (bif Nat.blt m 73 then 40 else 34)) else (bif Nat.blt m 75 then 35 else (bif Nat.blt m 76 then 36 else 0)))) else (bif Nat.blt m 82 then (bif Nat.blt m 79 then (bif Nat.blt m 78 then 41 else 42) else (bif Nat.blt m 80 then 39 else (bif Nat.blt m 81 then 37 else 38))) else (bif Nat.blt m 85 then (bif Nat.blt m 83 then 0 else (bif Nat.blt m 84 then 0 else 763)) else (bif Nat.blt m 86 then 0 else (bif Nat.blt m 87 then 882 else 887))))))) else (bif Nat.blt m 132 then (bif Nat.blt m 110 then (bif Nat.blt m 99 then (bif Nat.blt m 93 then (bif Nat.blt m 90 then (bif Nat.blt m 89 then 876 else 868) else (bif Nat.blt m 91 then 891 else (bif Nat.blt m 92 then 895 else 782))) else (bif Nat.blt m 96 then (bif Nat.blt m 94 then 847 else (bif Nat.blt m 95 then 851 else 843)) else (bif Nat.blt m 97 then 859 else (bif Nat.blt m 98 then 827 else 0)))) else (bif Nat.blt m 104 then (bif Nat.blt m 101 then (bif Nat.blt m 100 then 0 else 368) else (bif Nat.blt m 102 then 374 else (bif Nat.blt m 103 then 750 else 754))) else (bif Nat.blt m 107 then (bif Nat.blt m 105 then 899 else (bif Nat.blt m 106 then 908 else 916)) else (bif Nat.blt m 108 then 920 else (bif Nat.blt m 109 then 946 else 955))))) else (bif Nat.blt m 121 then (bif Nat.blt m 115 then (bif Nat.blt m 112 then (bif Nat.blt m 111 then 963 else 973) else (bif Nat.blt m 113 then 0 else (bif Nat.blt m 114 then 1238 else 1242))) else (bif Nat.blt m 118 then (bif Nat.blt m 116 then 52 else (bif Nat.blt m 117 then 51 else 53)) else (bif Nat.blt m 119 then 55 else (bif Nat.blt m 120 then 54 else 64)))) else (bif Nat.blt m 126 then (bif Nat.blt m 123 then (bif Nat.blt m 122 then 65 else 62) else (bif Nat.blt m 124 then 63 else (bif Nat.blt m 125 then 60 else 61))) else (bif Nat.blt m 129 then (bif Nat.blt m 127 then 66 else (bif Nat.blt m 128 then 59 else 58)) else (bif Nat.blt m 130 then 67 else (bif Nat.blt m 131 then 57 else 56)))))) else (bif Nat.blt m 154 then (bif Nat.blt m 143 then (bif Nat.blt m 137 then (bif Nat.blt m 134 then (bif Nat.blt m 133 then 50 else 49) else (bif Nat.blt m 135 then 48 else (bif Nat.blt m 136 then 1246 else 71))) else (bif Nat.blt m 140 then (bif Nat.blt m 138 then 70 else (bif Nat.blt m 139 then 69 else 73)) else (bif Nat.blt m 141 then 72 else (bif Nat.blt m 142 then 68 else 86)))) else (bif Nat.blt m 148 then (bif Nat.blt m 145 then (bif Nat.blt m 144 then 90 else 91) else (bif Nat.blt m 146 then 87 else (bif Nat.blt m 147 then 76 else 79))) else (bif Nat.blt m 151 then (bif Nat.blt m 149 then 78 else (bif Nat.blt m 150 then 83 else 85)) else (bif Nat.blt m 152 then 84 else (bif Nat.blt m 153 then 77 else 80))))) else (bif Nat.blt m 165 then (bif Nat.blt m 159 then (bif Nat.blt m 156 then (bif Nat.blt m 155 then 81 else 82) else (bif Nat.blt m 157 then 89 else (bif Nat.blt m 158 then 88 else 75))) else (bif Nat.blt m 162 then (bif Nat.blt m 160 then 74 else (bif Nat.blt m 161 then 92 else 1356)) else (bif Nat.blt m 163 then 1445 else (bif Nat.blt m 164 then 1449 else 95)))) else (bif Nat.blt m 170 then (bif Nat.blt m 167 then (bif Nat.blt m 166 then 1453 else 94) else (bif Nat.blt m 168 then 93 else (bif Nat.blt m 169 then 1461 else 1465))) else (bif Nat.blt m 173 then (bif Nat.blt m 171 then 1469 else (bif Nat.blt m 172 then 1473 else 1478)) else (bif Nat.blt m 174 then 0 else (bif Nat.blt m 175 then 0 else 0)))))))) else 0
def pIni (c : Nat) : Nat := bif Nat.blt c 14 then (bif Nat.blt c 7 then (bif Nat.blt c 3 then (bif Nat.blt c 1 then 108 else (bif Nat.blt c 2 then 101 else 103)) else (bif Nat.blt c 5 then (bif Nat.blt c 4 then 113 else 107) else (bif Nat.blt c 6 then 105 else 98))) else (bif Nat.blt c 10 then (bif Nat.blt c 8 then 99 else (bif Nat.blt c 9 then 106 else 100)) else (bif Nat.blt c 12 then (bif Nat.blt c 11 then 97 else 104) else (bif Nat.blt c 13 then 96 else 102)))) else 0
def pMk (c : Nat) : Nat := bif Nat.blt c 12 then (bif Nat.blt c 6 then (bif Nat.blt c 3 then (bif Nat.blt c 1 then 548 else (bif Nat.blt c 2 then 187 else 291)) else (bif Nat.blt c 4 then 693 else (bif Nat.blt c 5 then 498 else 377))) else (bif Nat.blt c 9 then (bif Nat.blt c 7 then 123 else (bif Nat.blt c 8 then 137 else 456)) else (bif Nat.blt c 10 then 145 else (bif Nat.blt c 11 then 115 else 976)))) else 0
def pLay0 (k : Nat) : Nat := bif Nat.blt k 5 then (bif Nat.blt k 2 then (bif Nat.blt k 1 then 566 else 568) else (bif Nat.blt k 3 then 570 else (bif Nat.blt k 4 then 572 else 574))) else 0
def pLay1 (k : Nat) : Nat := bif Nat.blt k 8 then (bif Nat.blt k 4 then (bif Nat.blt k 2 then (bif Nat.blt k 1 then 223 else 225) else (bif Nat.blt k 3 then 227 else 229)) else (bif Nat.blt k 6 then (bif Nat.blt k 5 then 231 else 233) else (bif Nat.blt k 7 then 235 else 237))) else 0
def pLay2 (k : Nat) : Nat := bif Nat.blt k 13 then (bif Nat.blt k 6 then (bif Nat.blt k 3 then (bif Nat.blt k 1 then 318 else (bif Nat.blt k 2 then 320 else 322)) else (bif Nat.blt k 4 then 324 else (bif Nat.blt k 5 then 326 else 328))) else (bif Nat.blt k 9 then (bif Nat.blt k 7 then 330 else (bif Nat.blt k 8 then 332 else 334)) else (bif Nat.blt k 11 then (bif Nat.blt k 10 then 336 else 338) else (bif Nat.blt k 12 then 340 else 342)))) else 0
def pLay3 (k : Nat) : Nat := bif Nat.blt k 2 then (bif Nat.blt k 1 then 702 else 704) else 0
def pLay4 (k : Nat) : Nat := bif Nat.blt k 7 then (bif Nat.blt k 3 then (bif Nat.blt k 1 then 529 else (bif Nat.blt k 2 then 531 else 533)) else (bif Nat.blt k 5 then (bif Nat.blt k 4 then 535 else 537) else (bif Nat.blt k 6 then 539 else 541))) else 0
def pLay5 (k : Nat) : Nat := bif Nat.blt k 6 then (bif Nat.blt k 3 then (bif Nat.blt k 1 then 394 else (bif Nat.blt k 2 then 396 else 398)) else (bif Nat.blt k 4 then 400 else (bif Nat.blt k 5 then 402 else 404))) else 0
def pLay6 (k : Nat) : Nat := bif Nat.blt k 2 then (bif Nat.blt k 1 then 130 else 132) else 0
def pLay7 (k : Nat) : Nat := bif Nat.blt k 13 then (bif Nat.blt k 6 then (bif Nat.blt k 3 then (bif Nat.blt k 1 then 263 else (bif Nat.blt k 2 then 265 else 267)) else (bif Nat.blt k 4 then 269 else (bif Nat.blt k 5 then 271 else 273))) else (bif Nat.blt k 9 then (bif Nat.blt k 7 then 275 else (bif Nat.blt k 8 then 277 else 279)) else (bif Nat.blt k 11 then (bif Nat.blt k 10 then 281 else 283) else (bif Nat.blt k 12 then 285 else 287)))) else 0
def pLay8 (k : Nat) : Nat := bif Nat.blt k 2 then (bif Nat.blt k 1 then 469 else 471) else 0
def pLay9 (k : Nat) : Nat := bif Nat.blt k 7 then (bif Nat.blt k 3 then (bif Nat.blt k 1 then 171 else (bif Nat.blt k 2 then 173 else 175)) else (bif Nat.blt k 5 then (bif Nat.blt k 4 then 177 else 179) else (bif Nat.blt k 6 then 181 else 183))) else 0
def pLay10 (k : Nat) : Nat := bif Nat.blt k 6 then (bif Nat.blt k 3 then (bif Nat.blt k 1 then 353 else (bif Nat.blt k 2 then 355 else 357)) else (bif Nat.blt k 4 then 359 else (bif Nat.blt k 5 then 361 else 363))) else 0
def pLay11 (k : Nat) : Nat := bif Nat.blt k 84 then (bif Nat.blt k 42 then (bif Nat.blt k 21 then (bif Nat.blt k 10 then (bif Nat.blt k 5 then (bif Nat.blt k 2 then (bif Nat.blt k 1 then 1066 else 1068) else (bif Nat.blt k 3 then 1070 else (bif Nat.blt k 4 then 1072 else 1074))) else (bif Nat.blt k 7 then (bif Nat.blt k 6 then 1076 else 1078) else (bif Nat.blt k 8 then 1080 else (bif Nat.blt k 9 then 1082 else 1084)))) else (bif Nat.blt k 15 then (bif Nat.blt k 12 then (bif Nat.blt k 11 then 1086 else 1088) else (bif Nat.blt k 13 then 1090 else (bif Nat.blt k 14 then 1092 else 1094))) else (bif Nat.blt k 18 then (bif Nat.blt k 16 then 1096 else (bif Nat.blt k 17 then 1098 else 1100)) else (bif Nat.blt k 19 then 1102 else (bif Nat.blt k 20 then 1104 else 1106))))) else (bif Nat.blt k 31 then (bif Nat.blt k 26 then (bif Nat.blt k 23 then (bif Nat.blt k 22 then 1108 else 1110) else (bif Nat.blt k 24 then 1112 else (bif Nat.blt k 25 then 1114 else 1116))) else (bif Nat.blt k 28 then (bif Nat.blt k 27 then 1118 else 1120) else (bif Nat.blt k 29 then 1122 else (bif Nat.blt k 30 then 1124 else 1126)))) else (bif Nat.blt k 36 then (bif Nat.blt k 33 then (bif Nat.blt k 32 then 1128 else 1130) else (bif Nat.blt k 34 then 1132 else (bif Nat.blt k 35 then 1134 else 1136))) else (bif Nat.blt k 39 then (bif Nat.blt k 37 then 1138 else (bif Nat.blt k 38 then 1140 else 1142)) else (bif Nat.blt k 40 then 1144 else (bif Nat.blt k 41 then 1146 else 1148)))))) else (bif Nat.blt k 63 then (bif Nat.blt k 52 then (bif Nat.blt k 47 then (bif Nat.blt k 44 then (bif Nat.blt k 43 then 1150 else 1152) else (bif Nat.blt k 45 then 1154 else (bif Nat.blt k 46 then 1156 else 1158))) else (bif Nat.blt k 49 then (bif Nat.blt k 48 then 1160 else 1162) else (bif Nat.blt k 50 then 1164 else (bif Nat.blt k 51 then 1166 else 1168)))) else (bif Nat.blt k 57 then (bif Nat.blt k 54 then (bif Nat.blt k 53 then 1170 else 1172) else (bif Nat.blt k 55 then 1174 else (bif Nat.blt k 56 then 1176 else 1178))) else (bif Nat.blt k 60 then (bif Nat.blt k 58 then 1180 else (bif Nat.blt k 59 then 1182 else 1184)) else (bif Nat.blt k 61 then 1186 else (bif Nat.blt k 62 then 1188 else 1190))))) else (bif Nat.blt k 73 then (bif Nat.blt k 68 then (bif Nat.blt k 65 then (bif Nat.blt k 64 then 1192 else 1194) else (bif Nat.blt k 66 then 1196 else (bif Nat.blt k 67 then 1198 else 1200))) else (bif Nat.blt k 70 then (bif Nat.blt k 69 then 1202 else 1204) else (bif Nat.blt k 71 then 1206 else (bif Nat.blt k 72 then 1208 else 1210)))) else (bif Nat.blt k 78 then (bif Nat.blt k 75 then (bif Nat.blt k 74 then 1212 else 1214) else (bif Nat.blt k 76 then 1216 else (bif Nat.blt k 77 then 1218 else 1220))) else (bif Nat.blt k 81 then (bif Nat.blt k 79 then 1222 else (bif Nat.blt k 80 then 1224 else 1226)) else (bif Nat.blt k 82 then 1228 else (bif Nat.blt k 83 then 1230 else 1232))))))) else 0
def pLay (c k : Nat) : Nat := (bif Nat.blt c 6 then (bif Nat.blt c 3 then (bif Nat.blt c 1 then pLay0 k else (bif Nat.blt c 2 then pLay1 k else pLay2 k)) else (bif Nat.blt c 4 then pLay3 k else (bif Nat.blt c 5 then pLay4 k else pLay5 k))) else (bif Nat.blt c 9 then (bif Nat.blt c 7 then pLay6 k else (bif Nat.blt c 8 then pLay7 k else pLay8 k)) else (bif Nat.blt c 10 then pLay9 k else (bif Nat.blt c 11 then pLay10 k else pLay11 k))))
def fL_0 : List (Nat × Nat × Nat × Nat × Bool) := [(0, 9, 3, 558, false), (0, 15, 4, 562, false), (0, 18, 0, 553, false), (0, 21, 1, 555, false), (0, 24, 2, 557, false), (1, 11, 100, 208, false), (1, 22, 101, 209, false), (1, 28, 102, 210, false), (1, 32, 103, 211, false), (1, 35, 104, 212, false), (1, 39, 105, 214, false), (1, 42, 106, 217, false), (1, 45, 107, 220, false), (10, 14, 1000, 347, false), (10, 18, 1001, 348, false), (10, 21, 1002, 349, false), (10, 27, 1003, 350, false), (10, 34, 1004, 351, false), (10, 41, 1005, 352, false), (10, 64, 505, 393, false), (10, 71, 104, 213, false), (10, 86, 712, 262, false), (10, 90, 200, 299, false), (10, 93, 201, 301, false), (10, 96, 202, 303, false), (10, 99, 203, 305, false), (10, 102, 204, 307, false), (10, 105, 206, 311, false), (10, 113, 205, 309, false), (10, 123, 106, 219, false), (10, 126, 107, 222, false), (10, 133, 1, 556, false), (10, 138, 0, 554, false), (10, 141, 3, 560, false), (10, 144, 4, 564, false), (10, 151, 105, 216, false), (10, 154, 708, 253, false), (11, 9, 1100, 983, false), (11, 13, 1101, 984, false), (11, 16, 1102, 985, false), (11, 19, 1107, 990, false), (11, 22, 1108, 991, false), (11, 25, 1109, 992, false), (11, 28, 1110, 993, false), (11, 31, 1111, 994, false), (11, 34, 1112, 995, false), (11, 37, 1113, 996, false), (11, 40, 1114, 997, false), (11, 43, 1115, 998, false), (11, 46, 1116, 999, false), (11, 49, 1117, 1000, false), (11, 52, 1118, 1001, false), (11, 55, 1119, 1002, false), (11, 58, 1120, 1003, false), (11, 61, 1121, 1004, false), (11, 64, 1122, 1005, false), (11, 67, 1123, 1006, false), (11, 71, 1124, 1007, false), (11, 74, 1138, 1020, false), (11, 77, 1139, 1021, false)]
def fL_1 : List (Nat × Nat × Nat × Nat × Bool) := [(11, 80, 1140, 1022, false), (11, 83, 1153, 1035, false), (11, 86, 1154, 1036, false), (11, 89, 1155, 1037, false), (11, 92, 1156, 1038, false), (11, 95, 1157, 1039, false), (11, 98, 1158, 1040, false), (11, 101, 1159, 1041, false), (11, 104, 1160, 1042, false), (11, 107, 1161, 1043, false), (11, 110, 1162, 1044, false), (11, 113, 1163, 1045, false), (11, 116, 1164, 1046, false), (11, 119, 1165, 1047, false), (11, 122, 1166, 1048, false), (11, 125, 1167, 1049, false), (11, 128, 1168, 1050, false), (11, 131, 1176, 1058, false), (11, 134, 1177, 1059, false), (11, 137, 1178, 1060, false), (11, 140, 1179, 1061, false), (11, 143, 1180, 1062, false), (11, 148, 1183, 1065, false), (11, 151, 1103, 986, false), (11, 155, 1104, 987, false), (11, 158, 1169, 1051, false), (11, 162, 1125, 1008, false), (11, 169, 1126, 1009, false), (11, 183, 1127, 1010, false), (11, 189, 1129, 1012, false), (11, 192, 1136, 1018, false), (11, 195, 1137, 1019, false), (11, 198, 1133, 1016, false), (11, 223, 1134, 1017, false), (11, 242, 1132, 1015, false), (11, 245, 1131, 1014, false), (11, 255, 1130, 1013, false), (11, 261, 1128, 1011, false), (11, 275, 1105, 988, false), (11, 278, 1106, 989, false), (11, 300, 1150, 1032, false), (11, 303, 1151, 1033, false), (11, 306, 1142, 1024, false), (11, 309, 1149, 1031, false), (11, 312, 1152, 1034, false), (11, 315, 1147, 1029, false), (11, 318, 1148, 1030, false), (11, 321, 1143, 1025, false), (11, 324, 1144, 1026, false), (11, 328, 1145, 1027, false), (11, 349, 1141, 1023, false), (11, 369, 1146, 1028, false), (11, 390, 1175, 1057, false), (11, 402, 1171, 1053, false), (11, 405, 1172, 1054, false), (11, 408, 1173, 1055, false), (11, 411, 1174, 1056, false), (11, 414, 1170, 1052, false), (11, 417, 1181, 1063, false), (11, 420, 1182, 1064, false)]
def fL_2 : List (Nat × Nat × Nat × Nat × Bool) := [(2, 9, 200, 298, false), (2, 15, 201, 300, false), (2, 19, 202, 302, false), (2, 22, 203, 304, false), (2, 25, 204, 306, false), (2, 28, 205, 308, false), (2, 31, 206, 310, false), (2, 39, 207, 312, false), (2, 43, 208, 313, false), (2, 46, 209, 314, false), (2, 49, 210, 315, false), (2, 52, 211, 316, false), (2, 55, 212, 317, false), (2, 58, 710, 257, false), (2, 61, 711, 259, false), (2, 62, 707, 251, false), (2, 63, 709, 255, false), (2, 64, 712, 261, false), (2, 65, 703, 245, true), (2, 69, 706, 249, true), (3, 14, 301, 701, false), (3, 20, 300, 700, false), (3, 34, 106, 218, false), (3, 52, 107, 221, false), (3, 62, 801, 466, false), (3, 68, 800, 462, false), (3, 76, 406, 526, false), (3, 80, 401, 507, false), (3, 83, 400, 504, false), (3, 86, 403, 515, false), (3, 89, 404, 518, false), (3, 95, 405, 522, false), (4, 9, 401, 506, false), (4, 15, 402, 510, false), (4, 19, 403, 513, false), (4, 22, 404, 517, false), (4, 26, 405, 521, false), (4, 29, 406, 525, false), (4, 33, 400, 503, false), (5, 12, 501, 388, false), (5, 23, 502, 389, false), (5, 27, 503, 390, false), (5, 31, 504, 391, false), (5, 34, 505, 392, false), (5, 37, 500, 387, false), (5, 88, 105, 215, false), (5, 102, 801, 468, false), (5, 113, 800, 464, false), (5, 120, 406, 528, false), (5, 130, 401, 509, false), (5, 155, 402, 512, false), (5, 169, 3, 561, false), (5, 174, 4, 565, false), (5, 177, 403, 516, false), (5, 223, 404, 520, false), (5, 226, 405, 524, false), (6, 9, 601, 129, false), (6, 15, 600, 128, false), (7, 14, 700, 241, false), (7, 20, 701, 242, false)]
def fL_3 : List (Nat × Nat × Nat × Nat × Bool) := [(7, 23, 702, 243, false), (7, 29, 703, 244, false), (7, 36, 704, 246, false), (7, 40, 705, 247, false), (7, 43, 706, 248, false), (7, 47, 707, 250, false), (7, 50, 708, 252, false), (7, 53, 709, 254, false), (7, 56, 710, 256, false), (7, 59, 711, 258, false), (7, 62, 712, 260, false), (7, 91, 801, 467, false), (7, 101, 800, 463, false), (7, 121, 406, 527, false), (7, 130, 400, 505, false), (7, 133, 403, 514, false), (7, 142, 401, 508, false), (7, 168, 402, 511, false), (7, 176, 3, 559, false), (7, 181, 4, 563, false), (7, 184, 404, 519, false), (7, 193, 405, 523, false), (8, 7, 800, 461, false), (8, 13, 801, 465, false), (9, 16, 900, 164, false), (9, 20, 901, 165, false), (9, 23, 902, 166, false), (9, 26, 903, 167, false), (9, 29, 904, 168, false), (9, 32, 905, 169, false), (9, 35, 906, 170, false)]
def fL : List (Nat × Nat × Nat × Nat × Bool) := fL_0 ++ fL_1 ++ fL_2 ++ fL_3
def mLk_0 : List (Nat × Nat × Nat × Nat × Bool) := [(13, 13, 173, 205, false), (12, 9, 99, 116, false), (12, 12, 112, 977, false), (12, 13, 100, 366, false), (12, 17, 113, 1236, false), (12, 18, 101, 372, false), (12, 22, 135, 1244, false), (12, 23, 102, 748, false), (12, 26, 114, 1240, false), (12, 27, 103, 752, false), (12, 30, 161, 1354, false), (12, 31, 104, 897, false), (12, 35, 162, 1443, false), (12, 36, 105, 906, false), (12, 39, 163, 1447, false), (12, 40, 106, 914, false), (12, 43, 165, 1451, false), (12, 44, 107, 918, false), (12, 47, 168, 1459, false), (12, 48, 108, 944, false), (12, 51, 169, 1463, false), (12, 52, 109, 953, false), (12, 55, 170, 1467, false), (12, 56, 110, 961, false), (12, 60, 171, 1471, false), (12, 61, 111, 971, false), (12, 64, 172, 1476, false), (1, 19, 59, 195, false), (1, 48, 65, 198, false), (1, 52, 3, 431, false), (1, 56, 62, 683, false), (1, 59, 61, 952, false), (1, 63, 0, 549, false), (1, 66, 63, 585, false), (1, 69, 60, 970, false), (10, 11, 59, 124, false), (10, 26, 66, 138, false), (10, 33, 11, 292, true), (10, 40, 2, 346, false), (10, 45, 60, 370, false), (10, 49, 63, 371, false), (10, 54, 32, 378, false), (10, 57, 33, 407, false), (10, 61, 64, 740, false), (10, 68, 12, 744, false), (10, 74, 4, 756, false), (10, 78, 67, 757, false), (10, 82, 13, 862, false), (10, 106, 15, 901, false), (10, 109, 16, 910, false), (10, 116, 17, 922, false), (10, 120, 6, 948, false), (10, 129, 7, 957, false), (10, 148, 10, 966, false), (11, 165, 115, 1264, false), (11, 172, 116, 1260, false), (11, 175, 118, 1276, false), (11, 179, 117, 1268, false), (11, 186, 119, 1272, false), (11, 209, 124, 1296, false)]
def mLk_1 : List (Nat × Nat × Nat × Nat × Bool) := [(11, 213, 125, 1300, false), (11, 216, 122, 1304, false), (11, 220, 123, 1308, false), (11, 226, 120, 1312, false), (11, 229, 131, 1280, false), (11, 233, 121, 1316, false), (11, 236, 126, 1320, false), (11, 239, 127, 1292, false), (11, 248, 128, 1288, false), (11, 251, 129, 1326, false), (11, 258, 130, 1284, false), (11, 264, 133, 1252, false), (11, 268, 134, 1248, false), (11, 272, 132, 1256, false), (11, 281, 141, 1330, false), (11, 284, 138, 1334, false), (11, 287, 136, 1342, false), (11, 290, 137, 1338, false), (11, 293, 140, 1346, false), (11, 297, 139, 1350, false), (11, 331, 151, 1399, false), (11, 334, 142, 1407, false), (11, 337, 148, 1374, false), (11, 341, 145, 1411, false), (11, 345, 147, 1378, false), (11, 352, 150, 1403, false), (11, 356, 152, 1370, false), (11, 359, 153, 1382, false), (11, 362, 146, 1366, false), (11, 365, 157, 1415, false), (11, 372, 154, 1386, false), (11, 375, 155, 1390, false), (11, 378, 143, 1423, false), (11, 382, 144, 1427, false), (11, 385, 149, 1394, false), (11, 387, 156, 1419, false), (11, 393, 160, 1431, false), (11, 396, 159, 1358, false), (11, 399, 158, 1362, false), (11, 423, 167, 1435, false), (11, 426, 164, 1455, false), (11, 429, 166, 1439, false), (2, 36, 59, 297, false), (2, 72, 89, 866, false), (2, 78, 14, 870, false), (2, 82, 88, 874, false), (2, 85, 65, 878, false), (2, 89, 61, 879, false), (2, 92, 86, 880, false), (2, 95, 62, 884, false), (2, 98, 87, 885, false), (2, 101, 90, 889, false), (2, 104, 91, 893, false), (2, 108, 60, 905, false), (2, 112, 18, 926, false), (2, 115, 64, 930, false), (2, 118, 19, 931, false), (2, 121, 20, 936, false), (2, 124, 21, 940, false), (2, 127, 63, 935, false)]
def mLk_2 : List (Nat × Nat × Nat × Nat × Bool) := [(3, 11, 59, 699, false), (3, 24, 3, 712, false), (3, 30, 25, 713, false), (3, 38, 65, 725, false), (3, 42, 28, 726, false), (3, 46, 62, 734, false), (3, 49, 24, 735, false), (3, 55, 61, 739, false), (3, 59, 26, 717, false), (3, 72, 27, 721, false), (3, 91, 29, 730, false), (5, 11, 2, 383, false), (5, 20, 59, 385, false), (5, 40, 65, 386, false), (5, 44, 41, 411, false), (5, 47, 36, 684, false), (5, 51, 58, 688, false), (5, 56, 22, 694, false), (5, 59, 23, 708, false), (5, 62, 60, 419, false), (5, 66, 61, 420, false), (5, 69, 35, 415, false), (5, 72, 37, 443, false), (5, 76, 34, 435, false), (5, 79, 39, 424, false), (5, 82, 4, 427, false), (5, 85, 38, 439, false), (5, 91, 42, 447, false), (5, 95, 5, 679, false), (5, 99, 43, 451, false), (5, 108, 82, 457, true), (5, 109, 45, 474, false), (5, 117, 44, 478, false), (5, 124, 40, 482, false), (5, 127, 46, 485, false), (5, 133, 48, 489, false), (5, 136, 49, 586, false), (5, 139, 30, 499, false), (5, 140, 56, 590, false), (5, 144, 51, 598, false), (5, 148, 52, 606, false), (5, 151, 8, 544, false), (5, 159, 47, 493, false), (5, 162, 50, 577, false), (5, 166, 9, 581, false), (5, 180, 62, 602, false), (5, 183, 53, 610, false), (5, 186, 57, 675, false), (5, 191, 54, 615, false), (5, 220, 55, 594, false), (6, 19, 174, 202, false), (7, 11, 59, 143, false), (7, 28, 83, 146, false), (7, 35, 2, 188, false), (7, 66, 65, 240, false), (7, 70, 84, 761, false), (7, 73, 68, 766, false), (7, 77, 62, 770, false), (7, 80, 3, 771, false), (7, 84, 69, 772, false)]
def mLk_3 : List (Nat × Nat × Nat × Nat × Bool) := [(7, 88, 70, 776, false), (7, 97, 92, 780, false), (7, 105, 71, 784, false), (7, 109, 94, 849, false), (7, 112, 31, 853, false), (7, 118, 93, 845, false), (7, 123, 96, 857, false), (7, 127, 73, 788, false), (7, 136, 79, 817, false), (7, 139, 77, 833, false), (7, 145, 72, 821, false), (7, 149, 95, 841, false), (7, 154, 74, 793, false), (7, 157, 75, 798, false), (7, 161, 61, 797, false), (7, 164, 76, 802, false), (7, 172, 80, 805, false), (7, 186, 78, 837, false), (7, 190, 81, 813, false), (7, 196, 97, 825, false), (7, 199, 1, 809, false), (9, 13, 59, 151, false), (9, 38, 85, 152, false), (9, 42, 64, 765, false), (9, 45, 63, 156, false), (9, 48, 60, 160, false), (9, 51, 61, 829, false), (9, 55, 95, 861, false), (9, 58, 98, 830, false)]
def mLk : List (Nat × Nat × Nat × Nat × Bool) := mLk_0 ++ mLk_1 ++ mLk_2 ++ mLk_3
def oL_0 : List (Nat × Nat × Nat) := [(0, 3, 552), (1, 3, 191), (10, 3, 119), (11, 1, 980), (2, 3, 295), (3, 3, 697), (4, 3, 502), (5, 3, 381), (6, 3, 127), (7, 3, 141), (8, 1, 460), (9, 5, 149)]
def oL : List (Nat × Nat × Nat) := oL_0
def cL_0 : List (Nat × Nat × Nat × Nat) := [(12, 7, 10, 114), (12, 10, 11, 975), (1, 9, 8, 192), (1, 17, 6, 194), (1, 26, 0, 196), (10, 9, 6, 122), (10, 24, 7, 136), (10, 31, 2, 290), (10, 38, 1, 345), (10, 52, 5, 376), (2, 34, 6, 296), (3, 9, 6, 698), (5, 9, 1, 382), (5, 18, 6, 384), (5, 54, 3, 692), (5, 103, 8, 455), (5, 121, 4, 497), (7, 9, 6, 142), (7, 26, 9, 144), (7, 33, 1, 186), (9, 11, 6, 150)]
def cL : List (Nat × Nat × Nat × Nat) := cL_0
def kL_0 : List (Nat × Nat × Nat × Nat) := [(10, 147, 1103515245, 965), (11, 327, 40000, 1398), (11, 432, 1103515245, 1475), (7, 153, 40000, 792)]
def kL : List (Nat × Nat × Nat × Nat) := kL_0
set_option maxRecDepth 1000000 in
theorem ck_code0 : lw_tbl[551]? = some (Cond.code (mY 0) (mB 0) (mL 0) (mR 0)) := rfl
set_option maxRecDepth 1000000 in
theorem ck_code1 : lw_tbl[812]? = some (Cond.code (mY 1) (mB 1) (mL 1) (mR 1)) := rfl
set_option maxRecDepth 1000000 in
theorem ck_code2 : lw_tbl[190]? = some (Cond.code (mY 2) (mB 2) (mL 2) (mR 2)) := rfl
set_option maxRecDepth 1000000 in
theorem ck_code3 : lw_tbl[434]? = some (Cond.code (mY 3) (mB 3) (mL 3) (mR 3)) := rfl
set_option maxRecDepth 1000000 in
theorem ck_code4 : lw_tbl[430]? = some (Cond.code (mY 4) (mB 4) (mL 4) (mR 4)) := rfl
set_option maxRecDepth 1000000 in
theorem ck_code5 : lw_tbl[682]? = some (Cond.code (mY 5) (mB 5) (mL 5) (mR 5)) := rfl
set_option maxRecDepth 1000000 in
theorem ck_code6 : lw_tbl[951]? = some (Cond.code (mY 6) (mB 6) (mL 6) (mR 6)) := rfl
set_option maxRecDepth 1000000 in
theorem ck_code7 : lw_tbl[960]? = some (Cond.code (mY 7) (mB 7) (mL 7) (mR 7)) := rfl
set_option maxRecDepth 1000000 in
theorem ck_code8 : lw_tbl[547]? = some (Cond.code (mY 8) (mB 8) (mL 8) (mR 8)) := rfl
set_option maxRecDepth 1000000 in
theorem ck_code9 : lw_tbl[584]? = some (Cond.code (mY 9) (mB 9) (mL 9) (mR 9)) := rfl
set_option maxRecDepth 1000000 in
theorem ck_code10 : lw_tbl[969]? = some (Cond.code (mY 10) (mB 10) (mL 10) (mR 10)) := rfl
set_option maxRecDepth 1000000 in
theorem ck_code11 : lw_tbl[294]? = some (Cond.code (mY 11) (mB 11) (mL 11) (mR 11)) := rfl
set_option maxRecDepth 1000000 in
theorem ck_code12 : lw_tbl[747]? = some (Cond.code (mY 12) (mB 12) (mL 12) (mR 12)) := rfl
set_option maxRecDepth 1000000 in
theorem ck_code13 : lw_tbl[865]? = some (Cond.code (mY 13) (mB 13) (mL 13) (mR 13)) := rfl
set_option maxRecDepth 1000000 in
theorem ck_code14 : lw_tbl[873]? = some (Cond.code (mY 14) (mB 14) (mL 14) (mR 14)) := rfl
set_option maxRecDepth 1000000 in
theorem ck_code15 : lw_tbl[904]? = some (Cond.code (mY 15) (mB 15) (mL 15) (mR 15)) := rfl
set_option maxRecDepth 1000000 in
theorem ck_code16 : lw_tbl[913]? = some (Cond.code (mY 16) (mB 16) (mL 16) (mR 16)) := rfl
set_option maxRecDepth 1000000 in
theorem ck_code17 : lw_tbl[925]? = some (Cond.code (mY 17) (mB 17) (mL 17) (mR 17)) := rfl
set_option maxRecDepth 1000000 in
theorem ck_code18 : lw_tbl[929]? = some (Cond.code (mY 18) (mB 18) (mL 18) (mR 18)) := rfl
set_option maxRecDepth 1000000 in
theorem ck_code19 : lw_tbl[934]? = some (Cond.code (mY 19) (mB 19) (mL 19) (mR 19)) := rfl
set_option maxRecDepth 1000000 in
theorem ck_code20 : lw_tbl[939]? = some (Cond.code (mY 20) (mB 20) (mL 20) (mR 20)) := rfl
set_option maxRecDepth 1000000 in
theorem ck_code21 : lw_tbl[943]? = some (Cond.code (mY 21) (mB 21) (mL 21) (mR 21)) := rfl
set_option maxRecDepth 1000000 in
theorem ck_code22 : lw_tbl[696]? = some (Cond.code (mY 22) (mB 22) (mL 22) (mR 22)) := rfl
set_option maxRecDepth 1000000 in
theorem ck_code23 : lw_tbl[711]? = some (Cond.code (mY 23) (mB 23) (mL 23) (mR 23)) := rfl
set_option maxRecDepth 1000000 in
theorem ck_code24 : lw_tbl[738]? = some (Cond.code (mY 24) (mB 24) (mL 24) (mR 24)) := rfl
set_option maxRecDepth 1000000 in
theorem ck_code25 : lw_tbl[716]? = some (Cond.code (mY 25) (mB 25) (mL 25) (mR 25)) := rfl
set_option maxRecDepth 1000000 in
theorem ck_code26 : lw_tbl[720]? = some (Cond.code (mY 26) (mB 26) (mL 26) (mR 26)) := rfl
set_option maxRecDepth 1000000 in
theorem ck_code27 : lw_tbl[724]? = some (Cond.code (mY 27) (mB 27) (mL 27) (mR 27)) := rfl
set_option maxRecDepth 1000000 in
theorem ck_code28 : lw_tbl[729]? = some (Cond.code (mY 28) (mB 28) (mL 28) (mR 28)) := rfl
set_option maxRecDepth 1000000 in
theorem ck_code29 : lw_tbl[733]? = some (Cond.code (mY 29) (mB 29) (mL 29) (mR 29)) := rfl
set_option maxRecDepth 1000000 in
theorem ck_code30 : lw_tbl[501]? = some (Cond.code (mY 30) (mB 30) (mL 30) (mR 30)) := rfl
set_option maxRecDepth 1000000 in
theorem ck_code31 : lw_tbl[856]? = some (Cond.code (mY 31) (mB 31) (mL 31) (mR 31)) := rfl
set_option maxRecDepth 1000000 in
theorem ck_code32 : lw_tbl[380]? = some (Cond.code (mY 32) (mB 32) (mL 32) (mR 32)) := rfl
set_option maxRecDepth 1000000 in
theorem ck_code33 : lw_tbl[410]? = some (Cond.code (mY 33) (mB 33) (mL 33) (mR 33)) := rfl
set_option maxRecDepth 1000000 in
theorem ck_code34 : lw_tbl[438]? = some (Cond.code (mY 34) (mB 34) (mL 34) (mR 34)) := rfl
set_option maxRecDepth 1000000 in
theorem ck_code35 : lw_tbl[418]? = some (Cond.code (mY 35) (mB 35) (mL 35) (mR 35)) := rfl
set_option maxRecDepth 1000000 in
theorem ck_code36 : lw_tbl[687]? = some (Cond.code (mY 36) (mB 36) (mL 36) (mR 36)) := rfl
set_option maxRecDepth 1000000 in
theorem ck_code37 : lw_tbl[446]? = some (Cond.code (mY 37) (mB 37) (mL 37) (mR 37)) := rfl
set_option maxRecDepth 1000000 in
theorem ck_code38 : lw_tbl[442]? = some (Cond.code (mY 38) (mB 38) (mL 38) (mR 38)) := rfl
set_option maxRecDepth 1000000 in
theorem ck_code39 : lw_tbl[426]? = some (Cond.code (mY 39) (mB 39) (mL 39) (mR 39)) := rfl
set_option maxRecDepth 1000000 in
theorem ck_code40 : lw_tbl[484]? = some (Cond.code (mY 40) (mB 40) (mL 40) (mR 40)) := rfl
set_option maxRecDepth 1000000 in
theorem ck_code41 : lw_tbl[414]? = some (Cond.code (mY 41) (mB 41) (mL 41) (mR 41)) := rfl
set_option maxRecDepth 1000000 in
theorem ck_code42 : lw_tbl[450]? = some (Cond.code (mY 42) (mB 42) (mL 42) (mR 42)) := rfl
set_option maxRecDepth 1000000 in
theorem ck_code43 : lw_tbl[454]? = some (Cond.code (mY 43) (mB 43) (mL 43) (mR 43)) := rfl
set_option maxRecDepth 1000000 in
theorem ck_code44 : lw_tbl[481]? = some (Cond.code (mY 44) (mB 44) (mL 44) (mR 44)) := rfl
set_option maxRecDepth 1000000 in
theorem ck_code45 : lw_tbl[477]? = some (Cond.code (mY 45) (mB 45) (mL 45) (mR 45)) := rfl
set_option maxRecDepth 1000000 in
theorem ck_code46 : lw_tbl[488]? = some (Cond.code (mY 46) (mB 46) (mL 46) (mR 46)) := rfl
set_option maxRecDepth 1000000 in
theorem ck_code47 : lw_tbl[496]? = some (Cond.code (mY 47) (mB 47) (mL 47) (mR 47)) := rfl
set_option maxRecDepth 1000000 in
theorem ck_code48 : lw_tbl[492]? = some (Cond.code (mY 48) (mB 48) (mL 48) (mR 48)) := rfl
set_option maxRecDepth 1000000 in
theorem ck_code49 : lw_tbl[589]? = some (Cond.code (mY 49) (mB 49) (mL 49) (mR 49)) := rfl
set_option maxRecDepth 1000000 in
theorem ck_code50 : lw_tbl[580]? = some (Cond.code (mY 50) (mB 50) (mL 50) (mR 50)) := rfl
set_option maxRecDepth 1000000 in
theorem ck_code51 : lw_tbl[601]? = some (Cond.code (mY 51) (mB 51) (mL 51) (mR 51)) := rfl
set_option maxRecDepth 1000000 in
theorem ck_code52 : lw_tbl[609]? = some (Cond.code (mY 52) (mB 52) (mL 52) (mR 52)) := rfl
set_option maxRecDepth 1000000 in
theorem ck_code53 : lw_tbl[613]? = some (Cond.code (mY 53) (mB 53) (mL 53) (mR 53)) := rfl
set_option maxRecDepth 1000000 in
theorem ck_code54 : lw_tbl[618]? = some (Cond.code (mY 54) (mB 54) (mL 54) (mR 54)) := rfl
set_option maxRecDepth 1000000 in
theorem ck_code55 : lw_tbl[597]? = some (Cond.code (mY 55) (mB 55) (mL 55) (mR 55)) := rfl
set_option maxRecDepth 1000000 in
theorem ck_code56 : lw_tbl[593]? = some (Cond.code (mY 56) (mB 56) (mL 56) (mR 56)) := rfl
set_option maxRecDepth 1000000 in
theorem ck_code57 : lw_tbl[678]? = some (Cond.code (mY 57) (mB 57) (mL 57) (mR 57)) := rfl
set_option maxRecDepth 1000000 in
theorem ck_code58 : lw_tbl[691]? = some (Cond.code (mY 58) (mB 58) (mL 58) (mR 58)) := rfl
set_option maxRecDepth 1000000 in
theorem ck_code59 : lw_tbl[126]? = some (Cond.code (mY 59) (mB 59) (mL 59) (mR 59)) := rfl
set_option maxRecDepth 1000000 in
theorem ck_code60 : lw_tbl[163]? = some (Cond.code (mY 60) (mB 60) (mL 60) (mR 60)) := rfl
set_option maxRecDepth 1000000 in
theorem ck_code61 : lw_tbl[423]? = some (Cond.code (mY 61) (mB 61) (mL 61) (mR 61)) := rfl
set_option maxRecDepth 1000000 in
theorem ck_code62 : lw_tbl[605]? = some (Cond.code (mY 62) (mB 62) (mL 62) (mR 62)) := rfl
set_option maxRecDepth 1000000 in
theorem ck_code63 : lw_tbl[159]? = some (Cond.code (mY 63) (mB 63) (mL 63) (mR 63)) := rfl
set_option maxRecDepth 1000000 in
theorem ck_code64 : lw_tbl[743]? = some (Cond.code (mY 64) (mB 64) (mL 64) (mR 64)) := rfl
set_option maxRecDepth 1000000 in
theorem ck_code65 : lw_tbl[201]? = some (Cond.code (mY 65) (mB 65) (mL 65) (mR 65)) := rfl
set_option maxRecDepth 1000000 in
theorem ck_code66 : lw_tbl[140]? = some (Cond.code (mY 66) (mB 66) (mL 66) (mR 66)) := rfl
set_option maxRecDepth 1000000 in
theorem ck_code67 : lw_tbl[760]? = some (Cond.code (mY 67) (mB 67) (mL 67) (mR 67)) := rfl
set_option maxRecDepth 1000000 in
theorem ck_code68 : lw_tbl[769]? = some (Cond.code (mY 68) (mB 68) (mL 68) (mR 68)) := rfl
set_option maxRecDepth 1000000 in
theorem ck_code69 : lw_tbl[775]? = some (Cond.code (mY 69) (mB 69) (mL 69) (mR 69)) := rfl
set_option maxRecDepth 1000000 in
theorem ck_code70 : lw_tbl[779]? = some (Cond.code (mY 70) (mB 70) (mL 70) (mR 70)) := rfl
set_option maxRecDepth 1000000 in
theorem ck_code71 : lw_tbl[787]? = some (Cond.code (mY 71) (mB 71) (mL 71) (mR 71)) := rfl
set_option maxRecDepth 1000000 in
theorem ck_code72 : lw_tbl[824]? = some (Cond.code (mY 72) (mB 72) (mL 72) (mR 72)) := rfl
set_option maxRecDepth 1000000 in
theorem ck_code73 : lw_tbl[791]? = some (Cond.code (mY 73) (mB 73) (mL 73) (mR 73)) := rfl
set_option maxRecDepth 1000000 in
theorem ck_code74 : lw_tbl[796]? = some (Cond.code (mY 74) (mB 74) (mL 74) (mR 74)) := rfl
set_option maxRecDepth 1000000 in
theorem ck_code75 : lw_tbl[801]? = some (Cond.code (mY 75) (mB 75) (mL 75) (mR 75)) := rfl
set_option maxRecDepth 1000000 in
theorem ck_code76 : lw_tbl[804]? = some (Cond.code (mY 76) (mB 76) (mL 76) (mR 76)) := rfl
set_option maxRecDepth 1000000 in
theorem ck_code77 : lw_tbl[836]? = some (Cond.code (mY 77) (mB 77) (mL 77) (mR 77)) := rfl
set_option maxRecDepth 1000000 in
theorem ck_code78 : lw_tbl[840]? = some (Cond.code (mY 78) (mB 78) (mL 78) (mR 78)) := rfl
set_option maxRecDepth 1000000 in
theorem ck_code79 : lw_tbl[820]? = some (Cond.code (mY 79) (mB 79) (mL 79) (mR 79)) := rfl
set_option maxRecDepth 1000000 in
theorem ck_code80 : lw_tbl[808]? = some (Cond.code (mY 80) (mB 80) (mL 80) (mR 80)) := rfl
set_option maxRecDepth 1000000 in
theorem ck_code81 : lw_tbl[816]? = some (Cond.code (mY 81) (mB 81) (mL 81) (mR 81)) := rfl
set_option maxRecDepth 1000000 in
theorem ck_code82 : lw_tbl[459]? = some (Cond.code (mY 82) (mB 82) (mL 82) (mR 82)) := rfl
set_option maxRecDepth 1000000 in
theorem ck_code83 : lw_tbl[148]? = some (Cond.code (mY 83) (mB 83) (mL 83) (mR 83)) := rfl
set_option maxRecDepth 1000000 in
theorem ck_code84 : lw_tbl[764]? = some (Cond.code (mY 84) (mB 84) (mL 84) (mR 84)) := rfl
set_option maxRecDepth 1000000 in
theorem ck_code85 : lw_tbl[155]? = some (Cond.code (mY 85) (mB 85) (mL 85) (mR 85)) := rfl
set_option maxRecDepth 1000000 in
theorem ck_code86 : lw_tbl[883]? = some (Cond.code (mY 86) (mB 86) (mL 86) (mR 86)) := rfl
set_option maxRecDepth 1000000 in
theorem ck_code87 : lw_tbl[888]? = some (Cond.code (mY 87) (mB 87) (mL 87) (mR 87)) := rfl
set_option maxRecDepth 1000000 in
theorem ck_code88 : lw_tbl[877]? = some (Cond.code (mY 88) (mB 88) (mL 88) (mR 88)) := rfl
set_option maxRecDepth 1000000 in
theorem ck_code89 : lw_tbl[869]? = some (Cond.code (mY 89) (mB 89) (mL 89) (mR 89)) := rfl
set_option maxRecDepth 1000000 in
theorem ck_code90 : lw_tbl[892]? = some (Cond.code (mY 90) (mB 90) (mL 90) (mR 90)) := rfl
set_option maxRecDepth 1000000 in
theorem ck_code91 : lw_tbl[896]? = some (Cond.code (mY 91) (mB 91) (mL 91) (mR 91)) := rfl
set_option maxRecDepth 1000000 in
theorem ck_code92 : lw_tbl[783]? = some (Cond.code (mY 92) (mB 92) (mL 92) (mR 92)) := rfl
set_option maxRecDepth 1000000 in
theorem ck_code93 : lw_tbl[848]? = some (Cond.code (mY 93) (mB 93) (mL 93) (mR 93)) := rfl
set_option maxRecDepth 1000000 in
theorem ck_code94 : lw_tbl[852]? = some (Cond.code (mY 94) (mB 94) (mL 94) (mR 94)) := rfl
set_option maxRecDepth 1000000 in
theorem ck_code95 : lw_tbl[844]? = some (Cond.code (mY 95) (mB 95) (mL 95) (mR 95)) := rfl
set_option maxRecDepth 1000000 in
theorem ck_code96 : lw_tbl[860]? = some (Cond.code (mY 96) (mB 96) (mL 96) (mR 96)) := rfl
set_option maxRecDepth 1000000 in
theorem ck_code97 : lw_tbl[828]? = some (Cond.code (mY 97) (mB 97) (mL 97) (mR 97)) := rfl
set_option maxRecDepth 1000000 in
theorem ck_code98 : lw_tbl[832]? = some (Cond.code (mY 98) (mB 98) (mL 98) (mR 98)) := rfl
set_option maxRecDepth 1000000 in
theorem ck_code99 : lw_tbl[118]? = some (Cond.code (mY 99) (mB 99) (mL 99) (mR 99)) := rfl
set_option maxRecDepth 1000000 in
theorem ck_code100 : lw_tbl[369]? = some (Cond.code (mY 100) (mB 100) (mL 100) (mR 100)) := rfl
set_option maxRecDepth 1000000 in
theorem ck_code101 : lw_tbl[375]? = some (Cond.code (mY 101) (mB 101) (mL 101) (mR 101)) := rfl
set_option maxRecDepth 1000000 in
theorem ck_code102 : lw_tbl[751]? = some (Cond.code (mY 102) (mB 102) (mL 102) (mR 102)) := rfl
set_option maxRecDepth 1000000 in
theorem ck_code103 : lw_tbl[755]? = some (Cond.code (mY 103) (mB 103) (mL 103) (mR 103)) := rfl
set_option maxRecDepth 1000000 in
theorem ck_code104 : lw_tbl[900]? = some (Cond.code (mY 104) (mB 104) (mL 104) (mR 104)) := rfl
set_option maxRecDepth 1000000 in
theorem ck_code105 : lw_tbl[909]? = some (Cond.code (mY 105) (mB 105) (mL 105) (mR 105)) := rfl
set_option maxRecDepth 1000000 in
theorem ck_code106 : lw_tbl[917]? = some (Cond.code (mY 106) (mB 106) (mL 106) (mR 106)) := rfl
set_option maxRecDepth 1000000 in
theorem ck_code107 : lw_tbl[921]? = some (Cond.code (mY 107) (mB 107) (mL 107) (mR 107)) := rfl
set_option maxRecDepth 1000000 in
theorem ck_code108 : lw_tbl[947]? = some (Cond.code (mY 108) (mB 108) (mL 108) (mR 108)) := rfl
set_option maxRecDepth 1000000 in
theorem ck_code109 : lw_tbl[956]? = some (Cond.code (mY 109) (mB 109) (mL 109) (mR 109)) := rfl
set_option maxRecDepth 1000000 in
theorem ck_code110 : lw_tbl[964]? = some (Cond.code (mY 110) (mB 110) (mL 110) (mR 110)) := rfl
set_option maxRecDepth 1000000 in
theorem ck_code111 : lw_tbl[974]? = some (Cond.code (mY 111) (mB 111) (mL 111) (mR 111)) := rfl
set_option maxRecDepth 1000000 in
theorem ck_code112 : lw_tbl[979]? = some (Cond.code (mY 112) (mB 112) (mL 112) (mR 112)) := rfl
set_option maxRecDepth 1000000 in
theorem ck_code113 : lw_tbl[1239]? = some (Cond.code (mY 113) (mB 113) (mL 113) (mR 113)) := rfl
set_option maxRecDepth 1000000 in
theorem ck_code114 : lw_tbl[1243]? = some (Cond.code (mY 114) (mB 114) (mL 114) (mR 114)) := rfl
set_option maxRecDepth 1000000 in
theorem ck_code115 : lw_tbl[1267]? = some (Cond.code (mY 115) (mB 115) (mL 115) (mR 115)) := rfl
set_option maxRecDepth 1000000 in
theorem ck_code116 : lw_tbl[1263]? = some (Cond.code (mY 116) (mB 116) (mL 116) (mR 116)) := rfl
set_option maxRecDepth 1000000 in
theorem ck_code117 : lw_tbl[1271]? = some (Cond.code (mY 117) (mB 117) (mL 117) (mR 117)) := rfl
set_option maxRecDepth 1000000 in
theorem ck_code118 : lw_tbl[1279]? = some (Cond.code (mY 118) (mB 118) (mL 118) (mR 118)) := rfl
set_option maxRecDepth 1000000 in
theorem ck_code119 : lw_tbl[1275]? = some (Cond.code (mY 119) (mB 119) (mL 119) (mR 119)) := rfl
set_option maxRecDepth 1000000 in
theorem ck_code120 : lw_tbl[1315]? = some (Cond.code (mY 120) (mB 120) (mL 120) (mR 120)) := rfl
set_option maxRecDepth 1000000 in
theorem ck_code121 : lw_tbl[1319]? = some (Cond.code (mY 121) (mB 121) (mL 121) (mR 121)) := rfl
set_option maxRecDepth 1000000 in
theorem ck_code122 : lw_tbl[1307]? = some (Cond.code (mY 122) (mB 122) (mL 122) (mR 122)) := rfl
set_option maxRecDepth 1000000 in
theorem ck_code123 : lw_tbl[1311]? = some (Cond.code (mY 123) (mB 123) (mL 123) (mR 123)) := rfl
set_option maxRecDepth 1000000 in
theorem ck_code124 : lw_tbl[1299]? = some (Cond.code (mY 124) (mB 124) (mL 124) (mR 124)) := rfl
set_option maxRecDepth 1000000 in
theorem ck_code125 : lw_tbl[1303]? = some (Cond.code (mY 125) (mB 125) (mL 125) (mR 125)) := rfl
set_option maxRecDepth 1000000 in
theorem ck_code126 : lw_tbl[1323]? = some (Cond.code (mY 126) (mB 126) (mL 126) (mR 126)) := rfl
set_option maxRecDepth 1000000 in
theorem ck_code127 : lw_tbl[1295]? = some (Cond.code (mY 127) (mB 127) (mL 127) (mR 127)) := rfl
set_option maxRecDepth 1000000 in
theorem ck_code128 : lw_tbl[1291]? = some (Cond.code (mY 128) (mB 128) (mL 128) (mR 128)) := rfl
set_option maxRecDepth 1000000 in
theorem ck_code129 : lw_tbl[1329]? = some (Cond.code (mY 129) (mB 129) (mL 129) (mR 129)) := rfl
set_option maxRecDepth 1000000 in
theorem ck_code130 : lw_tbl[1287]? = some (Cond.code (mY 130) (mB 130) (mL 130) (mR 130)) := rfl
set_option maxRecDepth 1000000 in
theorem ck_code131 : lw_tbl[1283]? = some (Cond.code (mY 131) (mB 131) (mL 131) (mR 131)) := rfl
set_option maxRecDepth 1000000 in
theorem ck_code132 : lw_tbl[1259]? = some (Cond.code (mY 132) (mB 132) (mL 132) (mR 132)) := rfl
set_option maxRecDepth 1000000 in
theorem ck_code133 : lw_tbl[1255]? = some (Cond.code (mY 133) (mB 133) (mL 133) (mR 133)) := rfl
set_option maxRecDepth 1000000 in
theorem ck_code134 : lw_tbl[1251]? = some (Cond.code (mY 134) (mB 134) (mL 134) (mR 134)) := rfl
set_option maxRecDepth 1000000 in
theorem ck_code135 : lw_tbl[1247]? = some (Cond.code (mY 135) (mB 135) (mL 135) (mR 135)) := rfl
set_option maxRecDepth 1000000 in
theorem ck_code136 : lw_tbl[1345]? = some (Cond.code (mY 136) (mB 136) (mL 136) (mR 136)) := rfl
set_option maxRecDepth 1000000 in
theorem ck_code137 : lw_tbl[1341]? = some (Cond.code (mY 137) (mB 137) (mL 137) (mR 137)) := rfl
set_option maxRecDepth 1000000 in
theorem ck_code138 : lw_tbl[1337]? = some (Cond.code (mY 138) (mB 138) (mL 138) (mR 138)) := rfl
set_option maxRecDepth 1000000 in
theorem ck_code139 : lw_tbl[1353]? = some (Cond.code (mY 139) (mB 139) (mL 139) (mR 139)) := rfl
set_option maxRecDepth 1000000 in
theorem ck_code140 : lw_tbl[1349]? = some (Cond.code (mY 140) (mB 140) (mL 140) (mR 140)) := rfl
set_option maxRecDepth 1000000 in
theorem ck_code141 : lw_tbl[1333]? = some (Cond.code (mY 141) (mB 141) (mL 141) (mR 141)) := rfl
set_option maxRecDepth 1000000 in
theorem ck_code142 : lw_tbl[1410]? = some (Cond.code (mY 142) (mB 142) (mL 142) (mR 142)) := rfl
set_option maxRecDepth 1000000 in
theorem ck_code143 : lw_tbl[1426]? = some (Cond.code (mY 143) (mB 143) (mL 143) (mR 143)) := rfl
set_option maxRecDepth 1000000 in
theorem ck_code144 : lw_tbl[1430]? = some (Cond.code (mY 144) (mB 144) (mL 144) (mR 144)) := rfl
set_option maxRecDepth 1000000 in
theorem ck_code145 : lw_tbl[1414]? = some (Cond.code (mY 145) (mB 145) (mL 145) (mR 145)) := rfl
set_option maxRecDepth 1000000 in
theorem ck_code146 : lw_tbl[1369]? = some (Cond.code (mY 146) (mB 146) (mL 146) (mR 146)) := rfl
set_option maxRecDepth 1000000 in
theorem ck_code147 : lw_tbl[1381]? = some (Cond.code (mY 147) (mB 147) (mL 147) (mR 147)) := rfl
set_option maxRecDepth 1000000 in
theorem ck_code148 : lw_tbl[1377]? = some (Cond.code (mY 148) (mB 148) (mL 148) (mR 148)) := rfl
set_option maxRecDepth 1000000 in
theorem ck_code149 : lw_tbl[1397]? = some (Cond.code (mY 149) (mB 149) (mL 149) (mR 149)) := rfl
set_option maxRecDepth 1000000 in
theorem ck_code150 : lw_tbl[1406]? = some (Cond.code (mY 150) (mB 150) (mL 150) (mR 150)) := rfl
set_option maxRecDepth 1000000 in
theorem ck_code151 : lw_tbl[1402]? = some (Cond.code (mY 151) (mB 151) (mL 151) (mR 151)) := rfl
set_option maxRecDepth 1000000 in
theorem ck_code152 : lw_tbl[1373]? = some (Cond.code (mY 152) (mB 152) (mL 152) (mR 152)) := rfl
set_option maxRecDepth 1000000 in
theorem ck_code153 : lw_tbl[1385]? = some (Cond.code (mY 153) (mB 153) (mL 153) (mR 153)) := rfl
set_option maxRecDepth 1000000 in
theorem ck_code154 : lw_tbl[1389]? = some (Cond.code (mY 154) (mB 154) (mL 154) (mR 154)) := rfl
set_option maxRecDepth 1000000 in
theorem ck_code155 : lw_tbl[1393]? = some (Cond.code (mY 155) (mB 155) (mL 155) (mR 155)) := rfl
set_option maxRecDepth 1000000 in
theorem ck_code156 : lw_tbl[1422]? = some (Cond.code (mY 156) (mB 156) (mL 156) (mR 156)) := rfl
set_option maxRecDepth 1000000 in
theorem ck_code157 : lw_tbl[1418]? = some (Cond.code (mY 157) (mB 157) (mL 157) (mR 157)) := rfl
set_option maxRecDepth 1000000 in
theorem ck_code158 : lw_tbl[1365]? = some (Cond.code (mY 158) (mB 158) (mL 158) (mR 158)) := rfl
set_option maxRecDepth 1000000 in
theorem ck_code159 : lw_tbl[1361]? = some (Cond.code (mY 159) (mB 159) (mL 159) (mR 159)) := rfl
set_option maxRecDepth 1000000 in
theorem ck_code160 : lw_tbl[1434]? = some (Cond.code (mY 160) (mB 160) (mL 160) (mR 160)) := rfl
set_option maxRecDepth 1000000 in
theorem ck_code161 : lw_tbl[1357]? = some (Cond.code (mY 161) (mB 161) (mL 161) (mR 161)) := rfl
set_option maxRecDepth 1000000 in
theorem ck_code162 : lw_tbl[1446]? = some (Cond.code (mY 162) (mB 162) (mL 162) (mR 162)) := rfl
set_option maxRecDepth 1000000 in
theorem ck_code163 : lw_tbl[1450]? = some (Cond.code (mY 163) (mB 163) (mL 163) (mR 163)) := rfl
set_option maxRecDepth 1000000 in
theorem ck_code164 : lw_tbl[1458]? = some (Cond.code (mY 164) (mB 164) (mL 164) (mR 164)) := rfl
set_option maxRecDepth 1000000 in
theorem ck_code165 : lw_tbl[1454]? = some (Cond.code (mY 165) (mB 165) (mL 165) (mR 165)) := rfl
set_option maxRecDepth 1000000 in
theorem ck_code166 : lw_tbl[1442]? = some (Cond.code (mY 166) (mB 166) (mL 166) (mR 166)) := rfl
set_option maxRecDepth 1000000 in
theorem ck_code167 : lw_tbl[1438]? = some (Cond.code (mY 167) (mB 167) (mL 167) (mR 167)) := rfl
set_option maxRecDepth 1000000 in
theorem ck_code168 : lw_tbl[1462]? = some (Cond.code (mY 168) (mB 168) (mL 168) (mR 168)) := rfl
set_option maxRecDepth 1000000 in
theorem ck_code169 : lw_tbl[1466]? = some (Cond.code (mY 169) (mB 169) (mL 169) (mR 169)) := rfl
set_option maxRecDepth 1000000 in
theorem ck_code170 : lw_tbl[1470]? = some (Cond.code (mY 170) (mB 170) (mL 170) (mR 170)) := rfl
set_option maxRecDepth 1000000 in
theorem ck_code171 : lw_tbl[1474]? = some (Cond.code (mY 171) (mB 171) (mL 171) (mR 171)) := rfl
set_option maxRecDepth 1000000 in
theorem ck_code172 : lw_tbl[1479]? = some (Cond.code (mY 172) (mB 172) (mL 172) (mR 172)) := rfl
set_option maxRecDepth 1000000 in
theorem ck_code173 : lw_tbl[207]? = some (Cond.code (mY 173) (mB 173) (mL 173) (mR 173)) := rfl
set_option maxRecDepth 1000000 in
theorem ck_code174 : lw_tbl[204]? = some (Cond.code (mY 174) (mB 174) (mL 174) (mR 174)) := rfl
set_option maxRecDepth 100000 in
theorem ck_inst_0 : ∀ m, m < 45 → (fun m => m = 175 ∨ (lw_tbl[pInst m]? = some (if mS m = true then Cond.static (mY m) else Cond.instanceMethod (mY m)))) (m + 0) := by decide +kernel
set_option maxRecDepth 100000 in
theorem ck_inst_1 : ∀ m, m < 45 → (fun m => m = 175 ∨ (lw_tbl[pInst m]? = some (if mS m = true then Cond.static (mY m) else Cond.instanceMethod (mY m)))) (m + 45) := by decide +kernel
set_option maxRecDepth 100000 in
theorem ck_inst_2 : ∀ m, m < 45 → (fun m => m = 175 ∨ (lw_tbl[pInst m]? = some (if mS m = true then Cond.static (mY m) else Cond.instanceMethod (mY m)))) (m + 90) := by decide +kernel
set_option maxRecDepth 100000 in
theorem ck_inst_3 : ∀ m, m < 41 → (fun m => m = 175 ∨ (lw_tbl[pInst m]? = some (if mS m = true then Cond.static (mY m) else Cond.instanceMethod (mY m)))) (m + 135) := by decide +kernel
theorem ck_inst : ∀ m, m < 176 → m ≠ 175 → (lw_tbl[pInst m]? = some (if mS m = true then Cond.static (mY m) else Cond.instanceMethod (mY m))) := fun m h h2 => by
  rcases Nat.lt_or_ge m 45 with a | a
  · exact (ck_inst_0 m a).resolve_left h2
  rcases Nat.lt_or_ge m 90 with b | b
  · have := ck_inst_1 (m - 45) (by omega); rw [show m - 45 + 45 = m by omega] at this; exact this.resolve_left h2
  rcases Nat.lt_or_ge m 135 with c | c
  · have := ck_inst_2 (m - 90) (by omega); rw [show m - 90 + 90 = m by omega] at this; exact this.resolve_left h2
  have := ck_inst_3 (m - 135) (by omega); rw [show m - 135 + 135 = m by omega] at this; exact this.resolve_left h2
set_option maxRecDepth 100000 in
theorem ck_sel_0 : ∀ m, m < 45 → (fun m => m = 175 ∨ (mS m = true ∨ mI m = true ∨ lw_tbl[pSel m]? = some (Cond.selects (mY m).cls (mY m) (mY m)))) (m + 0) := by decide +kernel
set_option maxRecDepth 100000 in
theorem ck_sel_1 : ∀ m, m < 45 → (fun m => m = 175 ∨ (mS m = true ∨ mI m = true ∨ lw_tbl[pSel m]? = some (Cond.selects (mY m).cls (mY m) (mY m)))) (m + 45) := by decide +kernel
set_option maxRecDepth 100000 in
theorem ck_sel_2 : ∀ m, m < 45 → (fun m => m = 175 ∨ (mS m = true ∨ mI m = true ∨ lw_tbl[pSel m]? = some (Cond.selects (mY m).cls (mY m) (mY m)))) (m + 90) := by decide +kernel
set_option maxRecDepth 100000 in
theorem ck_sel_3 : ∀ m, m < 41 → (fun m => m = 175 ∨ (mS m = true ∨ mI m = true ∨ lw_tbl[pSel m]? = some (Cond.selects (mY m).cls (mY m) (mY m)))) (m + 135) := by decide +kernel
theorem ck_sel : ∀ m, m < 176 → m ≠ 175 → (mS m = true ∨ mI m = true ∨ lw_tbl[pSel m]? = some (Cond.selects (mY m).cls (mY m) (mY m))) := fun m h h2 => by
  rcases Nat.lt_or_ge m 45 with a | a
  · exact (ck_sel_0 m a).resolve_left h2
  rcases Nat.lt_or_ge m 90 with b | b
  · have := ck_sel_1 (m - 45) (by omega); rw [show m - 45 + 45 = m by omega] at this; exact this.resolve_left h2
  rcases Nat.lt_or_ge m 135 with c | c
  · have := ck_sel_2 (m - 90) (by omega); rw [show m - 90 + 90 = m by omega] at this; exact this.resolve_left h2
  have := ck_sel_3 (m - 135) (by omega); rw [show m - 135 + 135 = m by omega] at this; exact this.resolve_left h2
set_option maxRecDepth 100000 in
theorem ck_y_0 : ∀ m, m < 45 → (fun m => m = 175 ∨ ((mY m).cls = cN (mC m) ∧ (parseMethodDescriptor (mY m).desc).map (fun d => d.parameters.length) = some (mA m) ∧ mA m + 1 ≤ mL m + 1 ∧ mL m ≤ 13 ∧ (mI m = true → (mY m).name = "<init>" ∧ mR m = none ∧ mS m = false) ∧ plainName (mY m).cls = true ∧ (mY m).cls ≠ "java/lang/invoke/MethodHandle" ∧ (mY m).cls ≠ "java/lang/invoke/VarHandle" ∧ mC m < 14 ∧ (if mS m = true then mA m else mA m + 1) ≤ mL m)) (m + 0) := by decide +kernel
set_option maxRecDepth 100000 in
theorem ck_y_1 : ∀ m, m < 45 → (fun m => m = 175 ∨ ((mY m).cls = cN (mC m) ∧ (parseMethodDescriptor (mY m).desc).map (fun d => d.parameters.length) = some (mA m) ∧ mA m + 1 ≤ mL m + 1 ∧ mL m ≤ 13 ∧ (mI m = true → (mY m).name = "<init>" ∧ mR m = none ∧ mS m = false) ∧ plainName (mY m).cls = true ∧ (mY m).cls ≠ "java/lang/invoke/MethodHandle" ∧ (mY m).cls ≠ "java/lang/invoke/VarHandle" ∧ mC m < 14 ∧ (if mS m = true then mA m else mA m + 1) ≤ mL m)) (m + 45) := by decide +kernel
set_option maxRecDepth 100000 in
theorem ck_y_2 : ∀ m, m < 45 → (fun m => m = 175 ∨ ((mY m).cls = cN (mC m) ∧ (parseMethodDescriptor (mY m).desc).map (fun d => d.parameters.length) = some (mA m) ∧ mA m + 1 ≤ mL m + 1 ∧ mL m ≤ 13 ∧ (mI m = true → (mY m).name = "<init>" ∧ mR m = none ∧ mS m = false) ∧ plainName (mY m).cls = true ∧ (mY m).cls ≠ "java/lang/invoke/MethodHandle" ∧ (mY m).cls ≠ "java/lang/invoke/VarHandle" ∧ mC m < 14 ∧ (if mS m = true then mA m else mA m + 1) ≤ mL m)) (m + 90) := by decide +kernel
set_option maxRecDepth 100000 in
theorem ck_y_3 : ∀ m, m < 41 → (fun m => m = 175 ∨ ((mY m).cls = cN (mC m) ∧ (parseMethodDescriptor (mY m).desc).map (fun d => d.parameters.length) = some (mA m) ∧ mA m + 1 ≤ mL m + 1 ∧ mL m ≤ 13 ∧ (mI m = true → (mY m).name = "<init>" ∧ mR m = none ∧ mS m = false) ∧ plainName (mY m).cls = true ∧ (mY m).cls ≠ "java/lang/invoke/MethodHandle" ∧ (mY m).cls ≠ "java/lang/invoke/VarHandle" ∧ mC m < 14 ∧ (if mS m = true then mA m else mA m + 1) ≤ mL m)) (m + 135) := by decide +kernel
theorem ck_y : ∀ m, m < 176 → m ≠ 175 → ((mY m).cls = cN (mC m) ∧ (parseMethodDescriptor (mY m).desc).map (fun d => d.parameters.length) = some (mA m) ∧ mA m + 1 ≤ mL m + 1 ∧ mL m ≤ 13 ∧ (mI m = true → (mY m).name = "<init>" ∧ mR m = none ∧ mS m = false) ∧ plainName (mY m).cls = true ∧ (mY m).cls ≠ "java/lang/invoke/MethodHandle" ∧ (mY m).cls ≠ "java/lang/invoke/VarHandle" ∧ mC m < 14 ∧ (if mS m = true then mA m else mA m + 1) ≤ mL m) := fun m h h2 => by
  rcases Nat.lt_or_ge m 45 with a | a
  · exact (ck_y_0 m a).resolve_left h2
  rcases Nat.lt_or_ge m 90 with b | b
  · have := ck_y_1 (m - 45) (by omega); rw [show m - 45 + 45 = m by omega] at this; exact this.resolve_left h2
  rcases Nat.lt_or_ge m 135 with c | c
  · have := ck_y_2 (m - 90) (by omega); rw [show m - 90 + 90 = m by omega] at this; exact this.resolve_left h2
  have := ck_y_3 (m - 135) (by omega); rw [show m - 135 + 135 = m by omega] at this; exact this.resolve_left h2
set_option maxRecDepth 100000 in
theorem ck_ini : ∀ c, c < 14 → lw_tbl[pIni c]? = some (Cond.initialized (cN c)) := by decide +kernel
set_option maxRecDepth 100000 in
theorem ck_mk : ∀ c, c < 12 → lw_tbl[pMk c]? = some (Cond.instantiable (cN c) (cF c)) := by decide +kernel
set_option maxRecDepth 100000 in
theorem ck_lay0 : ∀ k, k < cF 0 → lw_tbl[pLay 0 k]? = some (u_lay (cN 0) (cT 0) k) := by decide +kernel
set_option maxRecDepth 100000 in
theorem ck_lay1 : ∀ k, k < cF 1 → lw_tbl[pLay 1 k]? = some (u_lay (cN 1) (cT 1) k) := by decide +kernel
set_option maxRecDepth 100000 in
theorem ck_lay2 : ∀ k, k < cF 2 → lw_tbl[pLay 2 k]? = some (u_lay (cN 2) (cT 2) k) := by decide +kernel
set_option maxRecDepth 100000 in
theorem ck_lay3 : ∀ k, k < cF 3 → lw_tbl[pLay 3 k]? = some (u_lay (cN 3) (cT 3) k) := by decide +kernel
set_option maxRecDepth 100000 in
theorem ck_lay4 : ∀ k, k < cF 4 → lw_tbl[pLay 4 k]? = some (u_lay (cN 4) (cT 4) k) := by decide +kernel
set_option maxRecDepth 100000 in
theorem ck_lay5 : ∀ k, k < cF 5 → lw_tbl[pLay 5 k]? = some (u_lay (cN 5) (cT 5) k) := by decide +kernel
set_option maxRecDepth 100000 in
theorem ck_lay6 : ∀ k, k < cF 6 → lw_tbl[pLay 6 k]? = some (u_lay (cN 6) (cT 6) k) := by decide +kernel
set_option maxRecDepth 100000 in
theorem ck_lay7 : ∀ k, k < cF 7 → lw_tbl[pLay 7 k]? = some (u_lay (cN 7) (cT 7) k) := by decide +kernel
set_option maxRecDepth 100000 in
theorem ck_lay8 : ∀ k, k < cF 8 → lw_tbl[pLay 8 k]? = some (u_lay (cN 8) (cT 8) k) := by decide +kernel
set_option maxRecDepth 100000 in
theorem ck_lay9 : ∀ k, k < cF 9 → lw_tbl[pLay 9 k]? = some (u_lay (cN 9) (cT 9) k) := by decide +kernel
set_option maxRecDepth 100000 in
theorem ck_lay10 : ∀ k, k < cF 10 → lw_tbl[pLay 10 k]? = some (u_lay (cN 10) (cT 10) k) := by decide +kernel
set_option maxRecDepth 100000 in
theorem ck_lay11 : ∀ k, k < cF 11 → lw_tbl[pLay 11 k]? = some (u_lay (cN 11) (cT 11) k) := by decide +kernel
theorem ck_lay : ∀ c, c < 12 → ∀ k, k < cF c → lw_tbl[pLay c k]? = some (u_lay (cN c) (cT c) k) := fun c h => by
  match c, h with
  | 0, _ => exact ck_lay0
  | 1, _ => exact ck_lay1
  | 2, _ => exact ck_lay2
  | 3, _ => exact ck_lay3
  | 4, _ => exact ck_lay4
  | 5, _ => exact ck_lay5
  | 6, _ => exact ck_lay6
  | 7, _ => exact ck_lay7
  | 8, _ => exact ck_lay8
  | 9, _ => exact ck_lay9
  | 10, _ => exact ck_lay10
  | 11, _ => exact ck_lay11
theorem ck_cl : ∀ c, c < 12 → vwCl[c]? = some (cN c, cT c, cF c) := fun c h => by
  match c, h with
  | 0, _ => rfl
  | 1, _ => rfl
  | 2, _ => rfl
  | 3, _ => rfl
  | 4, _ => rfl
  | 5, _ => rfl
  | 6, _ => rfl
  | 7, _ => rfl
  | 8, _ => rfl
  | 9, _ => rfl
  | 10, _ => rfl
  | 11, _ => rfl
set_option maxRecDepth 100000 in
theorem ck_ty : ∀ c, c < 12 → ∀ k, k < cF c → parseFieldDescriptor ((cT c) k).2.2.1 = some ((cTy c) k) := by decide +kernel
set_option maxRecDepth 100000 in
theorem ck_nm : ∀ c, c < 12 → ∀ a, a < cF c → ∀ b, b < cF c → a ≠ b → ((cT c) a).2.1 ≠ ((cT c) b).2.1 := by decide +kernel
set_option maxRecDepth 100000 in
theorem ck_f0 : ∀ e ∈ fL_0, e.1 < 14 ∧ e.2.2.1 / 100 < 12 ∧ e.2.2.1 % 100 < cF (e.2.2.1 / 100) ∧ lw_tbl[e.2.2.2.1]? = some (if e.2.2.2.2 = true then Cond.fieldLinkNest (cN e.1) e.2.1 (cN (e.2.2.1 / 100)) (cT (e.2.2.1 / 100) (e.2.2.1 % 100)).2.1 (cT (e.2.2.1 / 100) (e.2.2.1 % 100)).2.2.1 "CommittedParsers" else Cond.fieldLink (cN e.1) e.2.1 (cN (e.2.2.1 / 100)) (cT (e.2.2.1 / 100) (e.2.2.1 % 100)).2.1 (cT (e.2.2.1 / 100) (e.2.2.1 % 100)).2.2.1) ∧ (cT (e.2.2.1 / 100) (e.2.2.1 % 100)).1 = cN (e.2.2.1 / 100) := by decide +kernel
set_option maxRecDepth 100000 in
theorem ck_f1 : ∀ e ∈ fL_1, e.1 < 14 ∧ e.2.2.1 / 100 < 12 ∧ e.2.2.1 % 100 < cF (e.2.2.1 / 100) ∧ lw_tbl[e.2.2.2.1]? = some (if e.2.2.2.2 = true then Cond.fieldLinkNest (cN e.1) e.2.1 (cN (e.2.2.1 / 100)) (cT (e.2.2.1 / 100) (e.2.2.1 % 100)).2.1 (cT (e.2.2.1 / 100) (e.2.2.1 % 100)).2.2.1 "CommittedParsers" else Cond.fieldLink (cN e.1) e.2.1 (cN (e.2.2.1 / 100)) (cT (e.2.2.1 / 100) (e.2.2.1 % 100)).2.1 (cT (e.2.2.1 / 100) (e.2.2.1 % 100)).2.2.1) ∧ (cT (e.2.2.1 / 100) (e.2.2.1 % 100)).1 = cN (e.2.2.1 / 100) := by decide +kernel
set_option maxRecDepth 100000 in
theorem ck_f2 : ∀ e ∈ fL_2, e.1 < 14 ∧ e.2.2.1 / 100 < 12 ∧ e.2.2.1 % 100 < cF (e.2.2.1 / 100) ∧ lw_tbl[e.2.2.2.1]? = some (if e.2.2.2.2 = true then Cond.fieldLinkNest (cN e.1) e.2.1 (cN (e.2.2.1 / 100)) (cT (e.2.2.1 / 100) (e.2.2.1 % 100)).2.1 (cT (e.2.2.1 / 100) (e.2.2.1 % 100)).2.2.1 "CommittedParsers" else Cond.fieldLink (cN e.1) e.2.1 (cN (e.2.2.1 / 100)) (cT (e.2.2.1 / 100) (e.2.2.1 % 100)).2.1 (cT (e.2.2.1 / 100) (e.2.2.1 % 100)).2.2.1) ∧ (cT (e.2.2.1 / 100) (e.2.2.1 % 100)).1 = cN (e.2.2.1 / 100) := by decide +kernel
set_option maxRecDepth 100000 in
theorem ck_f3 : ∀ e ∈ fL_3, e.1 < 14 ∧ e.2.2.1 / 100 < 12 ∧ e.2.2.1 % 100 < cF (e.2.2.1 / 100) ∧ lw_tbl[e.2.2.2.1]? = some (if e.2.2.2.2 = true then Cond.fieldLinkNest (cN e.1) e.2.1 (cN (e.2.2.1 / 100)) (cT (e.2.2.1 / 100) (e.2.2.1 % 100)).2.1 (cT (e.2.2.1 / 100) (e.2.2.1 % 100)).2.2.1 "CommittedParsers" else Cond.fieldLink (cN e.1) e.2.1 (cN (e.2.2.1 / 100)) (cT (e.2.2.1 / 100) (e.2.2.1 % 100)).2.1 (cT (e.2.2.1 / 100) (e.2.2.1 % 100)).2.2.1) ∧ (cT (e.2.2.1 / 100) (e.2.2.1 % 100)).1 = cN (e.2.2.1 / 100) := by decide +kernel
set_option maxRecDepth 100000 in
theorem ck_m0 : ∀ e ∈ mLk_0, e.1 < 14 ∧ e.2.2.1 < 176 ∧ e.2.2.1 ≠ 175 ∧ lw_tbl[e.2.2.2.1]? = some (if e.2.2.2.2 = true then Cond.methodLinkNest (cN e.1) e.2.1 (mY e.2.2.1) "CommittedParsers" else Cond.methodLink (cN e.1) e.2.1 (mY e.2.2.1)) := by decide +kernel
set_option maxRecDepth 100000 in
theorem ck_m1 : ∀ e ∈ mLk_1, e.1 < 14 ∧ e.2.2.1 < 176 ∧ e.2.2.1 ≠ 175 ∧ lw_tbl[e.2.2.2.1]? = some (if e.2.2.2.2 = true then Cond.methodLinkNest (cN e.1) e.2.1 (mY e.2.2.1) "CommittedParsers" else Cond.methodLink (cN e.1) e.2.1 (mY e.2.2.1)) := by decide +kernel
set_option maxRecDepth 100000 in
theorem ck_m2 : ∀ e ∈ mLk_2, e.1 < 14 ∧ e.2.2.1 < 176 ∧ e.2.2.1 ≠ 175 ∧ lw_tbl[e.2.2.2.1]? = some (if e.2.2.2.2 = true then Cond.methodLinkNest (cN e.1) e.2.1 (mY e.2.2.1) "CommittedParsers" else Cond.methodLink (cN e.1) e.2.1 (mY e.2.2.1)) := by decide +kernel
set_option maxRecDepth 100000 in
theorem ck_m3 : ∀ e ∈ mLk_3, e.1 < 14 ∧ e.2.2.1 < 176 ∧ e.2.2.1 ≠ 175 ∧ lw_tbl[e.2.2.2.1]? = some (if e.2.2.2.2 = true then Cond.methodLinkNest (cN e.1) e.2.1 (mY e.2.2.1) "CommittedParsers" else Cond.methodLink (cN e.1) e.2.1 (mY e.2.2.1)) := by decide +kernel
set_option maxRecDepth 100000 in
theorem ck_o : ∀ e ∈ oL, lw_tbl[e.2.2]? = some (Cond.methodLink (cN e.1) e.2.1 objectInit) := by decide +kernel
set_option maxRecDepth 100000 in
theorem ck_c : ∀ e ∈ cL, e.2.2.1 < 12 ∧ lw_tbl[e.2.2.2]? = some (Cond.classLink (cN e.1) e.2.1 (cN e.2.2.1)) := by decide +kernel
set_option maxRecDepth 100000 in
theorem ck_k : ∀ e ∈ kL, lw_tbl[e.2.2.2]? = some (Cond.constant (cN e.1) e.2.1 (Int32.ofNat e.2.2.1)) ∧ e.2.2.1 < 2147483648 := by decide +kernel
set_option maxRecDepth 1000000 in
theorem ck_code : ∀ m, m < 176 → m ≠ 175 → lw_tbl[pCode m]? = some (Cond.code (mY m) (mB m) (mL m) (mR m)) := fun m h h2 => by
  rcases Nat.lt_or_ge m 88 with a | a
  · rcases Nat.lt_or_ge m 44 with a | a
    · rcases Nat.lt_or_ge m 22 with a | a
      · rcases Nat.lt_or_ge m 11 with a | a
        · rcases Nat.lt_or_ge m 5 with a | a
          · rcases Nat.lt_or_ge m 2 with a | a
            · rcases Nat.lt_or_ge m 1 with a | a
              · obtain rfl : m = 0 := by omega
                exact ck_code0
              · obtain rfl : m = 1 := by omega
                exact ck_code1
            · rcases Nat.lt_or_ge m 3 with a | a
              · obtain rfl : m = 2 := by omega
                exact ck_code2
              · rcases Nat.lt_or_ge m 4 with a | a
                · obtain rfl : m = 3 := by omega
                  exact ck_code3
                · obtain rfl : m = 4 := by omega
                  exact ck_code4
          · rcases Nat.lt_or_ge m 8 with a | a
            · rcases Nat.lt_or_ge m 6 with a | a
              · obtain rfl : m = 5 := by omega
                exact ck_code5
              · rcases Nat.lt_or_ge m 7 with a | a
                · obtain rfl : m = 6 := by omega
                  exact ck_code6
                · obtain rfl : m = 7 := by omega
                  exact ck_code7
            · rcases Nat.lt_or_ge m 9 with a | a
              · obtain rfl : m = 8 := by omega
                exact ck_code8
              · rcases Nat.lt_or_ge m 10 with a | a
                · obtain rfl : m = 9 := by omega
                  exact ck_code9
                · obtain rfl : m = 10 := by omega
                  exact ck_code10
        · rcases Nat.lt_or_ge m 16 with a | a
          · rcases Nat.lt_or_ge m 13 with a | a
            · rcases Nat.lt_or_ge m 12 with a | a
              · obtain rfl : m = 11 := by omega
                exact ck_code11
              · obtain rfl : m = 12 := by omega
                exact ck_code12
            · rcases Nat.lt_or_ge m 14 with a | a
              · obtain rfl : m = 13 := by omega
                exact ck_code13
              · rcases Nat.lt_or_ge m 15 with a | a
                · obtain rfl : m = 14 := by omega
                  exact ck_code14
                · obtain rfl : m = 15 := by omega
                  exact ck_code15
          · rcases Nat.lt_or_ge m 19 with a | a
            · rcases Nat.lt_or_ge m 17 with a | a
              · obtain rfl : m = 16 := by omega
                exact ck_code16
              · rcases Nat.lt_or_ge m 18 with a | a
                · obtain rfl : m = 17 := by omega
                  exact ck_code17
                · obtain rfl : m = 18 := by omega
                  exact ck_code18
            · rcases Nat.lt_or_ge m 20 with a | a
              · obtain rfl : m = 19 := by omega
                exact ck_code19
              · rcases Nat.lt_or_ge m 21 with a | a
                · obtain rfl : m = 20 := by omega
                  exact ck_code20
                · obtain rfl : m = 21 := by omega
                  exact ck_code21
      · rcases Nat.lt_or_ge m 33 with a | a
        · rcases Nat.lt_or_ge m 27 with a | a
          · rcases Nat.lt_or_ge m 24 with a | a
            · rcases Nat.lt_or_ge m 23 with a | a
              · obtain rfl : m = 22 := by omega
                exact ck_code22
              · obtain rfl : m = 23 := by omega
                exact ck_code23
            · rcases Nat.lt_or_ge m 25 with a | a
              · obtain rfl : m = 24 := by omega
                exact ck_code24
              · rcases Nat.lt_or_ge m 26 with a | a
                · obtain rfl : m = 25 := by omega
                  exact ck_code25
                · obtain rfl : m = 26 := by omega
                  exact ck_code26
          · rcases Nat.lt_or_ge m 30 with a | a
            · rcases Nat.lt_or_ge m 28 with a | a
              · obtain rfl : m = 27 := by omega
                exact ck_code27
              · rcases Nat.lt_or_ge m 29 with a | a
                · obtain rfl : m = 28 := by omega
                  exact ck_code28
                · obtain rfl : m = 29 := by omega
                  exact ck_code29
            · rcases Nat.lt_or_ge m 31 with a | a
              · obtain rfl : m = 30 := by omega
                exact ck_code30
              · rcases Nat.lt_or_ge m 32 with a | a
                · obtain rfl : m = 31 := by omega
                  exact ck_code31
                · obtain rfl : m = 32 := by omega
                  exact ck_code32
        · rcases Nat.lt_or_ge m 38 with a | a
          · rcases Nat.lt_or_ge m 35 with a | a
            · rcases Nat.lt_or_ge m 34 with a | a
              · obtain rfl : m = 33 := by omega
                exact ck_code33
              · obtain rfl : m = 34 := by omega
                exact ck_code34
            · rcases Nat.lt_or_ge m 36 with a | a
              · obtain rfl : m = 35 := by omega
                exact ck_code35
              · rcases Nat.lt_or_ge m 37 with a | a
                · obtain rfl : m = 36 := by omega
                  exact ck_code36
                · obtain rfl : m = 37 := by omega
                  exact ck_code37
          · rcases Nat.lt_or_ge m 41 with a | a
            · rcases Nat.lt_or_ge m 39 with a | a
              · obtain rfl : m = 38 := by omega
                exact ck_code38
              · rcases Nat.lt_or_ge m 40 with a | a
                · obtain rfl : m = 39 := by omega
                  exact ck_code39
                · obtain rfl : m = 40 := by omega
                  exact ck_code40
            · rcases Nat.lt_or_ge m 42 with a | a
              · obtain rfl : m = 41 := by omega
                exact ck_code41
              · rcases Nat.lt_or_ge m 43 with a | a
                · obtain rfl : m = 42 := by omega
                  exact ck_code42
                · obtain rfl : m = 43 := by omega
                  exact ck_code43
    · rcases Nat.lt_or_ge m 66 with a | a
      · rcases Nat.lt_or_ge m 55 with a | a
        · rcases Nat.lt_or_ge m 49 with a | a
          · rcases Nat.lt_or_ge m 46 with a | a
            · rcases Nat.lt_or_ge m 45 with a | a
              · obtain rfl : m = 44 := by omega
                exact ck_code44
              · obtain rfl : m = 45 := by omega
                exact ck_code45
            · rcases Nat.lt_or_ge m 47 with a | a
              · obtain rfl : m = 46 := by omega
                exact ck_code46
              · rcases Nat.lt_or_ge m 48 with a | a
                · obtain rfl : m = 47 := by omega
                  exact ck_code47
                · obtain rfl : m = 48 := by omega
                  exact ck_code48
          · rcases Nat.lt_or_ge m 52 with a | a
            · rcases Nat.lt_or_ge m 50 with a | a
              · obtain rfl : m = 49 := by omega
                exact ck_code49
              · rcases Nat.lt_or_ge m 51 with a | a
                · obtain rfl : m = 50 := by omega
                  exact ck_code50
                · obtain rfl : m = 51 := by omega
                  exact ck_code51
            · rcases Nat.lt_or_ge m 53 with a | a
              · obtain rfl : m = 52 := by omega
                exact ck_code52
              · rcases Nat.lt_or_ge m 54 with a | a
                · obtain rfl : m = 53 := by omega
                  exact ck_code53
                · obtain rfl : m = 54 := by omega
                  exact ck_code54
        · rcases Nat.lt_or_ge m 60 with a | a
          · rcases Nat.lt_or_ge m 57 with a | a
            · rcases Nat.lt_or_ge m 56 with a | a
              · obtain rfl : m = 55 := by omega
                exact ck_code55
              · obtain rfl : m = 56 := by omega
                exact ck_code56
            · rcases Nat.lt_or_ge m 58 with a | a
              · obtain rfl : m = 57 := by omega
                exact ck_code57
              · rcases Nat.lt_or_ge m 59 with a | a
                · obtain rfl : m = 58 := by omega
                  exact ck_code58
                · obtain rfl : m = 59 := by omega
                  exact ck_code59
          · rcases Nat.lt_or_ge m 63 with a | a
            · rcases Nat.lt_or_ge m 61 with a | a
              · obtain rfl : m = 60 := by omega
                exact ck_code60
              · rcases Nat.lt_or_ge m 62 with a | a
                · obtain rfl : m = 61 := by omega
                  exact ck_code61
                · obtain rfl : m = 62 := by omega
                  exact ck_code62
            · rcases Nat.lt_or_ge m 64 with a | a
              · obtain rfl : m = 63 := by omega
                exact ck_code63
              · rcases Nat.lt_or_ge m 65 with a | a
                · obtain rfl : m = 64 := by omega
                  exact ck_code64
                · obtain rfl : m = 65 := by omega
                  exact ck_code65
      · rcases Nat.lt_or_ge m 77 with a | a
        · rcases Nat.lt_or_ge m 71 with a | a
          · rcases Nat.lt_or_ge m 68 with a | a
            · rcases Nat.lt_or_ge m 67 with a | a
              · obtain rfl : m = 66 := by omega
                exact ck_code66
              · obtain rfl : m = 67 := by omega
                exact ck_code67
            · rcases Nat.lt_or_ge m 69 with a | a
              · obtain rfl : m = 68 := by omega
                exact ck_code68
              · rcases Nat.lt_or_ge m 70 with a | a
                · obtain rfl : m = 69 := by omega
                  exact ck_code69
                · obtain rfl : m = 70 := by omega
                  exact ck_code70
          · rcases Nat.lt_or_ge m 74 with a | a
            · rcases Nat.lt_or_ge m 72 with a | a
              · obtain rfl : m = 71 := by omega
                exact ck_code71
              · rcases Nat.lt_or_ge m 73 with a | a
                · obtain rfl : m = 72 := by omega
                  exact ck_code72
                · obtain rfl : m = 73 := by omega
                  exact ck_code73
            · rcases Nat.lt_or_ge m 75 with a | a
              · obtain rfl : m = 74 := by omega
                exact ck_code74
              · rcases Nat.lt_or_ge m 76 with a | a
                · obtain rfl : m = 75 := by omega
                  exact ck_code75
                · obtain rfl : m = 76 := by omega
                  exact ck_code76
        · rcases Nat.lt_or_ge m 82 with a | a
          · rcases Nat.lt_or_ge m 79 with a | a
            · rcases Nat.lt_or_ge m 78 with a | a
              · obtain rfl : m = 77 := by omega
                exact ck_code77
              · obtain rfl : m = 78 := by omega
                exact ck_code78
            · rcases Nat.lt_or_ge m 80 with a | a
              · obtain rfl : m = 79 := by omega
                exact ck_code79
              · rcases Nat.lt_or_ge m 81 with a | a
                · obtain rfl : m = 80 := by omega
                  exact ck_code80
                · obtain rfl : m = 81 := by omega
                  exact ck_code81
          · rcases Nat.lt_or_ge m 85 with a | a
            · rcases Nat.lt_or_ge m 83 with a | a
              · obtain rfl : m = 82 := by omega
                exact ck_code82
              · rcases Nat.lt_or_ge m 84 with a | a
                · obtain rfl : m = 83 := by omega
                  exact ck_code83
                · obtain rfl : m = 84 := by omega
                  exact ck_code84
            · rcases Nat.lt_or_ge m 86 with a | a
              · obtain rfl : m = 85 := by omega
                exact ck_code85
              · rcases Nat.lt_or_ge m 87 with a | a
                · obtain rfl : m = 86 := by omega
                  exact ck_code86
                · obtain rfl : m = 87 := by omega
                  exact ck_code87
  · rcases Nat.lt_or_ge m 132 with a | a
    · rcases Nat.lt_or_ge m 110 with a | a
      · rcases Nat.lt_or_ge m 99 with a | a
        · rcases Nat.lt_or_ge m 93 with a | a
          · rcases Nat.lt_or_ge m 90 with a | a
            · rcases Nat.lt_or_ge m 89 with a | a
              · obtain rfl : m = 88 := by omega
                exact ck_code88
              · obtain rfl : m = 89 := by omega
                exact ck_code89
            · rcases Nat.lt_or_ge m 91 with a | a
              · obtain rfl : m = 90 := by omega
                exact ck_code90
              · rcases Nat.lt_or_ge m 92 with a | a
                · obtain rfl : m = 91 := by omega
                  exact ck_code91
                · obtain rfl : m = 92 := by omega
                  exact ck_code92
          · rcases Nat.lt_or_ge m 96 with a | a
            · rcases Nat.lt_or_ge m 94 with a | a
              · obtain rfl : m = 93 := by omega
                exact ck_code93
              · rcases Nat.lt_or_ge m 95 with a | a
                · obtain rfl : m = 94 := by omega
                  exact ck_code94
                · obtain rfl : m = 95 := by omega
                  exact ck_code95
            · rcases Nat.lt_or_ge m 97 with a | a
              · obtain rfl : m = 96 := by omega
                exact ck_code96
              · rcases Nat.lt_or_ge m 98 with a | a
                · obtain rfl : m = 97 := by omega
                  exact ck_code97
                · obtain rfl : m = 98 := by omega
                  exact ck_code98
        · rcases Nat.lt_or_ge m 104 with a | a
          · rcases Nat.lt_or_ge m 101 with a | a
            · rcases Nat.lt_or_ge m 100 with a | a
              · obtain rfl : m = 99 := by omega
                exact ck_code99
              · obtain rfl : m = 100 := by omega
                exact ck_code100
            · rcases Nat.lt_or_ge m 102 with a | a
              · obtain rfl : m = 101 := by omega
                exact ck_code101
              · rcases Nat.lt_or_ge m 103 with a | a
                · obtain rfl : m = 102 := by omega
                  exact ck_code102
                · obtain rfl : m = 103 := by omega
                  exact ck_code103
          · rcases Nat.lt_or_ge m 107 with a | a
            · rcases Nat.lt_or_ge m 105 with a | a
              · obtain rfl : m = 104 := by omega
                exact ck_code104
              · rcases Nat.lt_or_ge m 106 with a | a
                · obtain rfl : m = 105 := by omega
                  exact ck_code105
                · obtain rfl : m = 106 := by omega
                  exact ck_code106
            · rcases Nat.lt_or_ge m 108 with a | a
              · obtain rfl : m = 107 := by omega
                exact ck_code107
              · rcases Nat.lt_or_ge m 109 with a | a
                · obtain rfl : m = 108 := by omega
                  exact ck_code108
                · obtain rfl : m = 109 := by omega
                  exact ck_code109
      · rcases Nat.lt_or_ge m 121 with a | a
        · rcases Nat.lt_or_ge m 115 with a | a
          · rcases Nat.lt_or_ge m 112 with a | a
            · rcases Nat.lt_or_ge m 111 with a | a
              · obtain rfl : m = 110 := by omega
                exact ck_code110
              · obtain rfl : m = 111 := by omega
                exact ck_code111
            · rcases Nat.lt_or_ge m 113 with a | a
              · obtain rfl : m = 112 := by omega
                exact ck_code112
              · rcases Nat.lt_or_ge m 114 with a | a
                · obtain rfl : m = 113 := by omega
                  exact ck_code113
                · obtain rfl : m = 114 := by omega
                  exact ck_code114
          · rcases Nat.lt_or_ge m 118 with a | a
            · rcases Nat.lt_or_ge m 116 with a | a
              · obtain rfl : m = 115 := by omega
                exact ck_code115
              · rcases Nat.lt_or_ge m 117 with a | a
                · obtain rfl : m = 116 := by omega
                  exact ck_code116
                · obtain rfl : m = 117 := by omega
                  exact ck_code117
            · rcases Nat.lt_or_ge m 119 with a | a
              · obtain rfl : m = 118 := by omega
                exact ck_code118
              · rcases Nat.lt_or_ge m 120 with a | a
                · obtain rfl : m = 119 := by omega
                  exact ck_code119
                · obtain rfl : m = 120 := by omega
                  exact ck_code120
        · rcases Nat.lt_or_ge m 126 with a | a
          · rcases Nat.lt_or_ge m 123 with a | a
            · rcases Nat.lt_or_ge m 122 with a | a
              · obtain rfl : m = 121 := by omega
                exact ck_code121
              · obtain rfl : m = 122 := by omega
                exact ck_code122
            · rcases Nat.lt_or_ge m 124 with a | a
              · obtain rfl : m = 123 := by omega
                exact ck_code123
              · rcases Nat.lt_or_ge m 125 with a | a
                · obtain rfl : m = 124 := by omega
                  exact ck_code124
                · obtain rfl : m = 125 := by omega
                  exact ck_code125
          · rcases Nat.lt_or_ge m 129 with a | a
            · rcases Nat.lt_or_ge m 127 with a | a
              · obtain rfl : m = 126 := by omega
                exact ck_code126
              · rcases Nat.lt_or_ge m 128 with a | a
                · obtain rfl : m = 127 := by omega
                  exact ck_code127
                · obtain rfl : m = 128 := by omega
                  exact ck_code128
            · rcases Nat.lt_or_ge m 130 with a | a
              · obtain rfl : m = 129 := by omega
                exact ck_code129
              · rcases Nat.lt_or_ge m 131 with a | a
                · obtain rfl : m = 130 := by omega
                  exact ck_code130
                · obtain rfl : m = 131 := by omega
                  exact ck_code131
    · rcases Nat.lt_or_ge m 154 with a | a
      · rcases Nat.lt_or_ge m 143 with a | a
        · rcases Nat.lt_or_ge m 137 with a | a
          · rcases Nat.lt_or_ge m 134 with a | a
            · rcases Nat.lt_or_ge m 133 with a | a
              · obtain rfl : m = 132 := by omega
                exact ck_code132
              · obtain rfl : m = 133 := by omega
                exact ck_code133
            · rcases Nat.lt_or_ge m 135 with a | a
              · obtain rfl : m = 134 := by omega
                exact ck_code134
              · rcases Nat.lt_or_ge m 136 with a | a
                · obtain rfl : m = 135 := by omega
                  exact ck_code135
                · obtain rfl : m = 136 := by omega
                  exact ck_code136
          · rcases Nat.lt_or_ge m 140 with a | a
            · rcases Nat.lt_or_ge m 138 with a | a
              · obtain rfl : m = 137 := by omega
                exact ck_code137
              · rcases Nat.lt_or_ge m 139 with a | a
                · obtain rfl : m = 138 := by omega
                  exact ck_code138
                · obtain rfl : m = 139 := by omega
                  exact ck_code139
            · rcases Nat.lt_or_ge m 141 with a | a
              · obtain rfl : m = 140 := by omega
                exact ck_code140
              · rcases Nat.lt_or_ge m 142 with a | a
                · obtain rfl : m = 141 := by omega
                  exact ck_code141
                · obtain rfl : m = 142 := by omega
                  exact ck_code142
        · rcases Nat.lt_or_ge m 148 with a | a
          · rcases Nat.lt_or_ge m 145 with a | a
            · rcases Nat.lt_or_ge m 144 with a | a
              · obtain rfl : m = 143 := by omega
                exact ck_code143
              · obtain rfl : m = 144 := by omega
                exact ck_code144
            · rcases Nat.lt_or_ge m 146 with a | a
              · obtain rfl : m = 145 := by omega
                exact ck_code145
              · rcases Nat.lt_or_ge m 147 with a | a
                · obtain rfl : m = 146 := by omega
                  exact ck_code146
                · obtain rfl : m = 147 := by omega
                  exact ck_code147
          · rcases Nat.lt_or_ge m 151 with a | a
            · rcases Nat.lt_or_ge m 149 with a | a
              · obtain rfl : m = 148 := by omega
                exact ck_code148
              · rcases Nat.lt_or_ge m 150 with a | a
                · obtain rfl : m = 149 := by omega
                  exact ck_code149
                · obtain rfl : m = 150 := by omega
                  exact ck_code150
            · rcases Nat.lt_or_ge m 152 with a | a
              · obtain rfl : m = 151 := by omega
                exact ck_code151
              · rcases Nat.lt_or_ge m 153 with a | a
                · obtain rfl : m = 152 := by omega
                  exact ck_code152
                · obtain rfl : m = 153 := by omega
                  exact ck_code153
      · rcases Nat.lt_or_ge m 165 with a | a
        · rcases Nat.lt_or_ge m 159 with a | a
          · rcases Nat.lt_or_ge m 156 with a | a
            · rcases Nat.lt_or_ge m 155 with a | a
              · obtain rfl : m = 154 := by omega
                exact ck_code154
              · obtain rfl : m = 155 := by omega
                exact ck_code155
            · rcases Nat.lt_or_ge m 157 with a | a
              · obtain rfl : m = 156 := by omega
                exact ck_code156
              · rcases Nat.lt_or_ge m 158 with a | a
                · obtain rfl : m = 157 := by omega
                  exact ck_code157
                · obtain rfl : m = 158 := by omega
                  exact ck_code158
          · rcases Nat.lt_or_ge m 162 with a | a
            · rcases Nat.lt_or_ge m 160 with a | a
              · obtain rfl : m = 159 := by omega
                exact ck_code159
              · rcases Nat.lt_or_ge m 161 with a | a
                · obtain rfl : m = 160 := by omega
                  exact ck_code160
                · obtain rfl : m = 161 := by omega
                  exact ck_code161
            · rcases Nat.lt_or_ge m 163 with a | a
              · obtain rfl : m = 162 := by omega
                exact ck_code162
              · rcases Nat.lt_or_ge m 164 with a | a
                · obtain rfl : m = 163 := by omega
                  exact ck_code163
                · obtain rfl : m = 164 := by omega
                  exact ck_code164
        · rcases Nat.lt_or_ge m 170 with a | a
          · rcases Nat.lt_or_ge m 167 with a | a
            · rcases Nat.lt_or_ge m 166 with a | a
              · obtain rfl : m = 165 := by omega
                exact ck_code165
              · obtain rfl : m = 166 := by omega
                exact ck_code166
            · rcases Nat.lt_or_ge m 168 with a | a
              · obtain rfl : m = 167 := by omega
                exact ck_code167
              · rcases Nat.lt_or_ge m 169 with a | a
                · obtain rfl : m = 168 := by omega
                  exact ck_code168
                · obtain rfl : m = 169 := by omega
                  exact ck_code169
          · rcases Nat.lt_or_ge m 173 with a | a
            · rcases Nat.lt_or_ge m 171 with a | a
              · obtain rfl : m = 170 := by omega
                exact ck_code170
              · rcases Nat.lt_or_ge m 172 with a | a
                · obtain rfl : m = 171 := by omega
                  exact ck_code171
                · obtain rfl : m = 172 := by omega
                  exact ck_code172
            · rcases Nat.lt_or_ge m 174 with a | a
              · obtain rfl : m = 173 := by omega
                exact ck_code173
              · rcases Nat.lt_or_ge m 175 with a | a
                · obtain rfl : m = 174 := by omega
                  exact ck_code174
                · exact absurd (by omega) h2
