/-! ===== the code of the methods, instruction by instruction (printed by program) ===== -/
def ck0_48 : List (Nat × Instr × Nat) := [(1267, .iaload, 1), (1268, .aload_n 0, 1), (1269, .iload 4, 2), (1271, .iconst 3, 1), (1272, .iadd, 1), (1273, .iaload, 1), (1274, .ifCond .eq 7, 3), (1277, .iconst 1, 1), (1278, .goto 4, 3), (1281, .iconst 0, 1), (1282, .invokevirtual 156, 3), (1285, .if_icmp .eq 255, 3), (1288, .iconst 0, 1), (1289, .ireturn, 1), (1290, .aload_n 1, 1), (1291, .aload_n 0, 1)]
set_option maxRecDepth 100000 in
theorem dk0_48 : ∀ e ∈ ck0_48, decode code e.1 = .ok e.2 := by decide +kernel
def ck0_49 : List (Nat × Instr × Nat) := [(1292, .iload 4, 2), (1294, .iconst 1, 1), (1295, .iadd, 1), (1296, .iaload, 1), (1297, .aload_n 0, 1), (1298, .iload 4, 2), (1300, .iconst 2, 1), (1301, .iadd, 1), (1302, .iaload, 1), (1303, .invokevirtual 157, 3), (1306, .aload_n 2, 1), (1307, .aload_n 0, 1), (1308, .iload 4, 2), (1310, .iconst 1, 1), (1311, .iadd, 1), (1312, .iaload, 1)]
set_option maxRecDepth 100000 in
theorem dk0_49 : ∀ e ∈ ck0_49, decode code e.1 = .ok e.2 := by decide +kernel
def ck0_50 : List (Nat × Instr × Nat) := [(1313, .aload_n 0, 1), (1314, .iload 4, 2), (1316, .iconst 2, 1), (1317, .iadd, 1), (1318, .iaload, 1), (1319, .invokevirtual 160, 3), (1322, .if_icmp .eq 218, 3), (1325, .iconst 0, 1), (1326, .ireturn, 1), (1327, .aload_n 1, 1), (1328, .aload_n 0, 1), (1329, .iload 4, 2), (1331, .iconst 1, 1), (1332, .iadd, 1), (1333, .iaload, 1), (1334, .invokevirtual 161, 3)]
set_option maxRecDepth 100000 in
theorem dk0_50 : ∀ e ∈ ck0_50, decode code e.1 = .ok e.2 := by decide +kernel
def ck0_51 : List (Nat × Instr × Nat) := [(1337, .aload_n 2, 1), (1338, .aload_n 0, 1), (1339, .iload 4, 2), (1341, .iconst 1, 1), (1342, .iadd, 1), (1343, .iaload, 1), (1344, .invokevirtual 164, 3), (1347, .if_icmp .eq 193, 3), (1350, .iconst 0, 1), (1351, .ireturn, 1), (1352, .aload_n 1, 1), (1353, .aload_n 0, 1), (1354, .iload 4, 2), (1356, .iconst 1, 1), (1357, .iadd, 1), (1358, .iaload, 1)]
set_option maxRecDepth 100000 in
theorem dk0_51 : ∀ e ∈ ck0_51, decode code e.1 = .ok e.2 := by decide +kernel
def ck0_52 : List (Nat × Instr × Nat) := [(1359, .aload_n 0, 1), (1360, .iload 4, 2), (1362, .iconst 2, 1), (1363, .iadd, 1), (1364, .iaload, 1), (1365, .invokevirtual 165, 3), (1368, .aload_n 2, 1), (1369, .aload_n 0, 1), (1370, .iload 4, 2), (1372, .iconst 1, 1), (1373, .iadd, 1), (1374, .iaload, 1), (1375, .aload_n 0, 1), (1376, .iload 4, 2), (1378, .iconst 2, 1), (1379, .iadd, 1)]
set_option maxRecDepth 100000 in
theorem dk0_52 : ∀ e ∈ ck0_52, decode code e.1 = .ok e.2 := by decide +kernel
def ck0_53 : List (Nat × Instr × Nat) := [(1380, .iaload, 1), (1381, .invokevirtual 168, 3), (1384, .if_icmp .eq 156, 3), (1387, .iconst 0, 1), (1388, .ireturn, 1), (1389, .aload_n 1, 1), (1390, .aload_n 0, 1), (1391, .iload 4, 2), (1393, .iconst 1, 1), (1394, .iadd, 1), (1395, .iaload, 1), (1396, .aload_n 0, 1), (1397, .iload 4, 2), (1399, .iconst 2, 1), (1400, .iadd, 1), (1401, .iaload, 1)]
set_option maxRecDepth 100000 in
theorem dk0_53 : ∀ e ∈ ck0_53, decode code e.1 = .ok e.2 := by decide +kernel
def ck0_54 : List (Nat × Instr × Nat) := [(1402, .invokevirtual 169, 3), (1405, .aload_n 2, 1), (1406, .aload_n 0, 1), (1407, .iload 4, 2), (1409, .iconst 1, 1), (1410, .iadd, 1), (1411, .iaload, 1), (1412, .aload_n 0, 1), (1413, .iload 4, 2), (1415, .iconst 2, 1), (1416, .iadd, 1), (1417, .iaload, 1), (1418, .invokevirtual 172, 3), (1421, .if_icmp .eq 119, 3), (1424, .iconst 0, 1), (1425, .ireturn, 1)]
set_option maxRecDepth 100000 in
theorem dk0_54 : ∀ e ∈ ck0_54, decode code e.1 = .ok e.2 := by decide +kernel
def ck0_55 : List (Nat × Instr × Nat) := [(1426, .aload_n 1, 1), (1427, .aload_n 0, 1), (1428, .iload 4, 2), (1430, .iconst 1, 1), (1431, .iadd, 1), (1432, .iaload, 1), (1433, .invokevirtual 173, 3), (1436, .aload_n 2, 1), (1437, .aload_n 0, 1), (1438, .iload 4, 2), (1440, .iconst 1, 1), (1441, .iadd, 1), (1442, .iaload, 1), (1443, .invokevirtual 176, 3), (1446, .if_icmp .eq 94, 3), (1449, .iconst 0, 1)]
set_option maxRecDepth 100000 in
theorem dk0_55 : ∀ e ∈ ck0_55, decode code e.1 = .ok e.2 := by decide +kernel
def ck0_56 : List (Nat × Instr × Nat) := [(1450, .ireturn, 1), (1451, .aload_n 1, 1), (1452, .aload_n 0, 1), (1453, .iload 4, 2), (1455, .iconst 1, 1), (1456, .iadd, 1), (1457, .iaload, 1), (1458, .invokevirtual 177, 3), (1461, .aload_n 2, 1), (1462, .aload_n 0, 1), (1463, .iload 4, 2), (1465, .iconst 1, 1), (1466, .iadd, 1), (1467, .iaload, 1), (1468, .invokevirtual 180, 3), (1471, .if_icmp .eq 69, 3)]
set_option maxRecDepth 100000 in
theorem dk0_56 : ∀ e ∈ ck0_56, decode code e.1 = .ok e.2 := by decide +kernel
def ck0_57 : List (Nat × Instr × Nat) := [(1474, .iconst 0, 1), (1475, .ireturn, 1), (1476, .aload_n 1, 1), (1477, .invokevirtual 181, 3), (1480, .aload_n 2, 1), (1481, .invokevirtual 184, 3), (1484, .if_icmp .eq 56, 3), (1487, .iconst 0, 1), (1488, .ireturn, 1), (1489, .aload_n 1, 1), (1490, .invokevirtual 185, 3), (1493, .aload_n 2, 1), (1494, .invokevirtual 188, 3), (1497, .if_icmp .eq 43, 3), (1500, .iconst 0, 1), (1501, .ireturn, 1)]
set_option maxRecDepth 100000 in
theorem dk0_57 : ∀ e ∈ ck0_57, decode code e.1 = .ok e.2 := by decide +kernel
def ck0_58 : List (Nat × Instr × Nat) := [(1502, .aload_n 1, 1), (1503, .invokevirtual 189, 3), (1506, .aload_n 2, 1), (1507, .invokevirtual 192, 3), (1510, .if_icmp .eq 30, 3), (1513, .iconst 0, 1), (1514, .ireturn, 1), (1515, .aload_n 1, 1), (1516, .aload_n 0, 1), (1517, .iload 4, 2), (1519, .iconst 1, 1), (1520, .iadd, 1), (1521, .iaload, 1), (1522, .invokevirtual 193, 3), (1525, .aload_n 2, 1), (1526, .aload_n 0, 1)]
set_option maxRecDepth 100000 in
theorem dk0_58 : ∀ e ∈ ck0_58, decode code e.1 = .ok e.2 := by decide +kernel
def ck0_59 : List (Nat × Instr × Nat) := [(1527, .iload 4, 2), (1529, .iconst 1, 1), (1530, .iadd, 1), (1531, .iaload, 1), (1532, .invokevirtual 196, 3), (1535, .if_icmp .eq 5, 3), (1538, .iconst 0, 1), (1539, .ireturn, 1), (1540, .iinc 4 6, 3), (1543, .goto (-1520), 3), (1546, .iconst 1, 1), (1547, .ireturn, 1)]
set_option maxRecDepth 100000 in
theorem dk0_59 : ∀ e ∈ ck0_59, decode code e.1 = .ok e.2 := by decide +kernel
