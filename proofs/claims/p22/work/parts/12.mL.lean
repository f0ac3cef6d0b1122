set_option maxRecDepth 100000 in
def cdL_law : List CE := (0, 3, some oNo) :: (3, 1, some oDup) :: (4, 3, some oNo) :: (7, 1, some (oAs 1)) :: (8, 3, some oNo) :: (11, 1, some oDup) ::
  (12, 3, some oNo) :: (15, 1, some (oAs 2)) :: (16, 1, some (oIc 1)) :: (17, 2, some oNo) :: (19, 1, some (oAs 3)) :: (20, 1, some (oIc 0)) ::
  (21, 2, some (oIs 4)) :: (23, 0, none) :: (23, 2, some (oIl 4)) :: (25, 1, some (oAl 0)) :: (26, 1, some oSlen) :: (27, 2, some (oIc 8)) ::
  (29, 1, some oIsub) :: (30, 3, some (oCmGt 1350)) :: (33, 1, some (oAl 0)) :: (34, 2, some (oIl 4)) :: (36, 1, some oSld) :: (37, 2, some (oIc 31)) ::
  (39, 1, some oIand) :: (40, 116, some (oSw [(0, 156), (1, 229), (2, 254), (3, 279), (4, 316), (5, 356), (6, 393), (7, 494), (8, 507), (9, 544), (10, 593), (11, 666), (12, 747), (13, 796), (14, 833), (15, 906), (16, 967), (17, 1040), (18, 1053), (19, 1078), (20, 1103), (21, 1196), (22, 1221), (23, 1246), (24, 1319)] 1344)) :: (156, 1, some (oAl 1)) :: (157, 1, some (oAl 0)) :: (158, 2, some (oIl 4)) :: (160, 1, some (oIc 1)) ::
  (161, 1, some oIadd) :: (162, 1, some oSld) :: (163, 1, some (oAl 0)) :: (164, 2, some (oIl 4)) :: (166, 1, some (oIc 2)) :: (167, 1, some oIadd) ::
  (168, 1, some oSld) :: (169, 1, some (oAl 0)) :: (170, 2, some (oIl 4)) :: (172, 1, some (oIc 3)) :: (173, 1, some oIadd) :: (174, 1, some oSld) ::
  (175, 1, some (oAl 0)) :: (176, 2, some (oIl 4)) :: (178, 1, some (oIc 4)) :: (179, 1, some oIadd) :: (180, 1, some oSld) :: (181, 1, some (oAl 0)) ::
  (182, 2, some (oIl 4)) :: (184, 1, some (oIc 5)) :: (185, 1, some oIadd) :: (186, 1, some oSld) :: (187, 3, some (oCI 6 mX6_feed 6)) :: (190, 1, some oPop) ::
  (191, 1, some (oAl 2)) :: (192, 1, some (oAl 0)) :: (193, 2, some (oIl 4)) :: (195, 1, some (oIc 1)) :: (196, 1, some oIadd) :: (197, 1, some oSld) ::
  (198, 1, some (oAl 0)) :: (199, 2, some (oIl 4)) :: (201, 1, some (oIc 2)) :: (202, 1, some oIadd) :: (203, 1, some oSld) :: (204, 1, some (oAl 0)) ::
  (205, 2, some (oIl 4)) :: (207, 1, some (oIc 3)) :: (208, 1, some oIadd) :: (209, 1, some oSld) :: (210, 1, some (oAl 0)) :: (211, 2, some (oIl 4)) ::
  (213, 1, some (oIc 4)) :: (214, 1, some oIadd) :: (215, 1, some oSld) :: (216, 1, some (oAl 0)) :: (217, 2, some (oIl 4)) :: (219, 1, some (oIc 5)) ::
  (220, 1, some oIadd) :: (221, 1, some oSld) :: (222, 3, some (oCI 7 mX7_feed 6)) :: (225, 1, some oPop) :: (226, 3, some (oGoto 1344)) :: (229, 1, some (oAl 1)) ::
  (230, 1, some (oAl 0)) :: (231, 2, some (oIl 4)) :: (233, 1, some (oIc 1)) :: (234, 1, some oIadd) :: (235, 1, some oSld) :: (236, 3, some (oCI 6 mX6_book 2)) ::
  (239, 1, some oPop) :: (240, 1, some (oAl 2)) :: (241, 1, some (oAl 0)) :: (242, 2, some (oIl 4)) :: (244, 1, some (oIc 1)) :: (245, 1, some oIadd) ::
  (246, 1, some oSld) :: (247, 3, some (oCI 7 mX7_book 2)) :: (250, 1, some oPop) :: (251, 3, some (oGoto 1344)) :: (254, 1, some (oAl 1)) :: (255, 1, some (oAl 0)) ::
  (256, 2, some (oIl 4)) :: (258, 1, some (oIc 1)) :: (259, 1, some oIadd) :: (260, 1, some oSld) :: (261, 3, some (oCI 6 mX6_fault 2)) :: (264, 1, some oPop) ::
  (265, 1, some (oAl 2)) :: (266, 1, some (oAl 0)) :: (267, 2, some (oIl 4)) :: (269, 1, some (oIc 1)) :: (270, 1, some oIadd) :: (271, 1, some oSld) ::
  (272, 3, some (oCI 7 mX7_fault 2)) :: (275, 1, some oPop) :: (276, 3, some (oGoto 1344)) :: (279, 1, some (oAl 1)) :: (280, 1, some (oAl 0)) :: (281, 2, some (oIl 4)) ::
  (283, 1, some (oIc 1)) :: (284, 1, some oIadd) :: (285, 1, some oSld) :: (286, 1, some (oAl 0)) :: (287, 2, some (oIl 4)) :: (289, 1, some (oIc 2)) ::
  (290, 1, some oIadd) :: (291, 1, some oSld) :: (292, 3, some (oCI 6 mX6_named 3)) :: (295, 1, some oPop) :: (296, 1, some (oAl 2)) :: (297, 1, some (oAl 0)) ::
  (298, 2, some (oIl 4)) :: (300, 1, some (oIc 1)) :: (301, 1, some oIadd) :: (302, 1, some oSld) :: (303, 1, some (oAl 0)) :: (304, 2, some (oIl 4)) ::
  (306, 1, some (oIc 2)) :: (307, 1, some oIadd) :: (308, 1, some oSld) :: (309, 3, some (oCI 7 mX7_named 3)) :: (312, 1, some oPop) :: (313, 3, some (oGoto 1344)) ::
  (316, 1, some (oAl 1)) :: (317, 1, some (oAl 0)) :: (318, 2, some (oIl 4)) :: (320, 1, some (oIc 1)) :: (321, 1, some oIadd) :: (322, 1, some oSld) ::
  (323, 1, some (oAl 0)) :: (324, 2, some (oIl 4)) :: (326, 1, some (oIc 2)) :: (327, 1, some oIadd) :: (328, 1, some oSld) :: (329, 1, some (oAl 3)) ::
  (330, 0, none) :: (330, 3, some oNo) :: (333, 2, some (oIs 5)) :: (335, 1, some (oAl 2)) :: (336, 1, some (oAl 0)) :: (337, 2, some (oIl 4)) :: (339, 1, some (oIc 1)) ::
  (340, 1, some oIadd) :: (341, 1, some oSld) :: (342, 1, some (oAl 0)) :: (343, 2, some (oIl 4)) :: (345, 1, some (oIc 2)) :: (346, 1, some oIadd) ::
  (347, 1, some oSld) :: (348, 3, some (oCI 7 mX7_look 3)) :: (351, 2, some (oIs 6)) :: (353, 3, some (oGoto 1344)) :: (356, 1, some (oAl 1)) :: (357, 1, some (oAl 0)) ::
  (358, 2, some (oIl 4)) :: (360, 1, some (oIc 1)) :: (361, 1, some oIadd) :: (362, 1, some oSld) :: (363, 1, some (oAl 0)) :: (364, 2, some (oIl 4)) ::
  (366, 1, some (oIc 2)) :: (367, 1, some oIadd) :: (368, 1, some oSld) :: (369, 3, some (oCI 6 mX6_firm 3)) :: (372, 1, some oPop) :: (373, 1, some (oAl 2)) ::
  (374, 1, some (oAl 0)) :: (375, 2, some (oIl 4)) :: (377, 1, some (oIc 1)) :: (378, 1, some oIadd) :: (379, 1, some oSld) :: (380, 1, some (oAl 0)) ::
  (381, 2, some (oIl 4)) :: (383, 1, some (oIc 2)) :: (384, 1, some oIadd) :: (385, 1, some oSld) :: (386, 3, some (oCI 7 mX7_firm 3)) :: (389, 1, some oPop) ::
  (390, 3, some (oGoto 1344)) :: (393, 1, some (oAl 1)) :: (394, 1, some (oAl 0)) :: (395, 2, some (oIl 4)) :: (397, 1, some (oIc 1)) :: (398, 1, some oIadd) ::
  (399, 1, some oSld) :: (400, 1, some (oAl 0)) :: (401, 2, some (oIl 4)) :: (403, 1, some (oIc 2)) :: (404, 1, some oIadd) :: (405, 1, some oSld) ::
  (406, 1, some (oAl 0)) :: (407, 2, some (oIl 4)) :: (409, 1, some (oIc 3)) :: (410, 1, some oIadd) :: (411, 1, some oSld) :: (412, 1, some (oAl 0)) ::
  (413, 2, some (oIl 4)) :: (415, 1, some (oIc 4)) :: (416, 1, some oIadd) :: (417, 1, some oSld) :: (418, 1, some (oAl 0)) :: (419, 2, some (oIl 4)) ::
  (421, 1, some (oIc 5)) :: (422, 1, some oIadd) :: (423, 1, some oSld) :: (424, 1, some (oAl 0)) :: (425, 2, some (oIl 4)) :: (427, 2, some (oIc 6)) ::
  (429, 1, some oIadd) :: (430, 1, some oSld) :: (431, 1, some (oAl 0)) :: (432, 2, some (oIl 4)) :: (434, 2, some (oIc 7)) :: (436, 1, some oIadd) ::
  (437, 1, some oSld) :: (438, 3, some (oCI 6 mX6_sell 8)) :: (441, 1, some oPop) :: (442, 1, some (oAl 2)) :: (443, 1, some (oAl 0)) :: (444, 2, some (oIl 4)) ::
  (446, 1, some (oIc 1)) :: (447, 1, some oIadd) :: (448, 1, some oSld) :: (449, 1, some (oAl 0)) :: (450, 2, some (oIl 4)) :: (452, 1, some (oIc 2)) ::
  (453, 1, some oIadd) :: (454, 1, some oSld) :: (455, 1, some (oAl 0)) :: (456, 2, some (oIl 4)) :: (458, 1, some (oIc 3)) :: (459, 1, some oIadd) ::
  (460, 1, some oSld) :: (461, 1, some (oAl 0)) :: (462, 2, some (oIl 4)) :: (464, 1, some (oIc 4)) :: (465, 1, some oIadd) :: (466, 1, some oSld) ::
  (467, 1, some (oAl 0)) :: (468, 2, some (oIl 4)) :: (470, 1, some (oIc 5)) :: (471, 1, some oIadd) :: (472, 1, some oSld) :: (473, 1, some (oAl 0)) ::
  (474, 2, some (oIl 4)) :: (476, 2, some (oIc 6)) :: (478, 1, some oIadd) :: (479, 1, some oSld) :: (480, 1, some (oAl 0)) :: (481, 2, some (oIl 4)) ::
  (483, 2, some (oIc 7)) :: (485, 1, some oIadd) :: (486, 1, some oSld) :: (487, 3, some (oCI 7 mX7_sell 8)) :: (490, 1, some oPop) :: (491, 3, some (oGoto 1344)) ::
  (494, 1, some (oAl 1)) :: (495, 3, some (oCI 6 mX6_undo 1)) :: (498, 1, some oPop) :: (499, 1, some (oAl 2)) :: (500, 3, some (oCI 7 mX7_undo 1)) :: (503, 1, some oPop) ::
  (504, 3, some (oGoto 1344)) :: (507, 1, some (oAl 1)) :: (508, 1, some (oAl 0)) :: (509, 2, some (oIl 4)) :: (511, 1, some (oIc 1)) :: (512, 1, some oIadd) ::
  (513, 1, some oSld) :: (514, 1, some (oAl 0)) :: (515, 2, some (oIl 4)) :: (517, 1, some (oIc 2)) :: (518, 1, some oIadd) :: (519, 1, some oSld) ::
  (520, 3, some (oCI 6 mX6_pay 3)) :: (523, 1, some oPop) :: (524, 1, some (oAl 2)) :: (525, 1, some (oAl 0)) :: (526, 2, some (oIl 4)) :: (528, 1, some (oIc 1)) ::
  (529, 1, some oIadd) :: (530, 1, some oSld) :: (531, 1, some (oAl 0)) :: (532, 2, some (oIl 4)) :: (534, 1, some (oIc 2)) :: (535, 1, some oIadd) ::
  (536, 1, some oSld) :: (537, 3, some (oCI 7 mX7_pay 3)) :: (540, 1, some oPop) :: (541, 3, some (oGoto 1344)) :: (544, 1, some (oAl 1)) :: (545, 1, some (oAl 0)) ::
  (546, 2, some (oIl 4)) :: (548, 1, some (oIc 1)) :: (549, 1, some oIadd) :: (550, 1, some oSld) :: (551, 1, some (oAl 0)) :: (552, 2, some (oIl 4)) ::
  (554, 1, some (oIc 2)) :: (555, 1, some oIadd) :: (556, 1, some oSld) :: (557, 1, some (oAl 0)) :: (558, 2, some (oIl 4)) :: (560, 1, some (oIc 3)) ::
  (561, 1, some oIadd) :: (562, 1, some oSld) :: (563, 3, some (oCI 6 mX6_rounds 4)) :: (566, 1, some oPop) :: (567, 1, some (oAl 2)) :: (568, 1, some (oAl 0)) ::
  (569, 2, some (oIl 4)) :: (571, 1, some (oIc 1)) :: (572, 1, some oIadd) :: (573, 1, some oSld) :: (574, 1, some (oAl 0)) :: (575, 2, some (oIl 4)) ::
  (577, 1, some (oIc 2)) :: (578, 1, some oIadd) :: (579, 1, some oSld) :: (580, 1, some (oAl 0)) :: (581, 2, some (oIl 4)) :: (583, 1, some (oIc 3)) ::
  (584, 1, some oIadd) :: (585, 1, some oSld) :: (586, 3, some (oCI 7 mX7_rounds 4)) :: (589, 1, some oPop) :: (590, 3, some (oGoto 1344)) :: (593, 1, some (oAl 1)) ::
  (594, 1, some (oAl 0)) :: (595, 2, some (oIl 4)) :: (597, 1, some (oIc 1)) :: (598, 1, some oIadd) :: (599, 1, some oSld) :: (600, 1, some (oAl 0)) ::
  (601, 2, some (oIl 4)) :: (603, 1, some (oIc 2)) :: (604, 1, some oIadd) :: (605, 1, some oSld) :: (606, 1, some (oAl 0)) :: (607, 2, some (oIl 4)) ::
  (609, 1, some (oIc 3)) :: (610, 1, some oIadd) :: (611, 1, some oSld) :: (612, 1, some (oAl 0)) :: (613, 2, some (oIl 4)) :: (615, 1, some (oIc 4)) ::
  (616, 1, some oIadd) :: (617, 1, some oSld) :: (618, 1, some (oAl 0)) :: (619, 2, some (oIl 4)) :: (621, 1, some (oIc 5)) :: (622, 1, some oIadd) ::
  (623, 1, some oSld) :: (624, 3, some (oCI 6 mX6_round 6)) :: (627, 1, some oPop) :: (628, 1, some (oAl 2)) :: (629, 1, some (oAl 0)) :: (630, 2, some (oIl 4)) ::
  (632, 1, some (oIc 1)) :: (633, 1, some oIadd) :: (634, 1, some oSld) :: (635, 1, some (oAl 0)) :: (636, 2, some (oIl 4)) :: (638, 1, some (oIc 2)) ::
  (639, 1, some oIadd) :: (640, 1, some oSld) :: (641, 1, some (oAl 0)) :: (642, 2, some (oIl 4)) :: (644, 1, some (oIc 3)) :: (645, 1, some oIadd) ::
  (646, 1, some oSld) :: (647, 1, some (oAl 0)) :: (648, 2, some (oIl 4)) :: (650, 1, some (oIc 4)) :: (651, 1, some oIadd) :: (652, 1, some oSld) ::
  (653, 1, some (oAl 0)) :: (654, 2, some (oIl 4)) :: (656, 1, some (oIc 5)) :: (657, 1, some oIadd) :: (658, 1, some oSld) :: (659, 3, some (oCI 7 mX7_round 6)) ::
  (662, 1, some oPop) :: (663, 3, some (oGoto 1344)) :: (666, 1, some (oAl 1)) :: (667, 1, some (oAl 0)) :: (668, 2, some (oIl 4)) :: (670, 1, some (oIc 1)) ::
  (671, 1, some oIadd) :: (672, 1, some oSld) :: (673, 1, some (oAl 0)) :: (674, 2, some (oIl 4)) :: (676, 1, some (oIc 2)) :: (677, 1, some oIadd) ::
  (678, 1, some oSld) :: (679, 1, some (oAl 0)) :: (680, 2, some (oIl 4)) :: (682, 1, some (oIc 3)) :: (683, 1, some oIadd) :: (684, 1, some oSld) ::
  (685, 1, some oI2l) :: (686, 2, some (oIc 32)) :: (688, 1, some oLshl) :: (689, 1, some (oAl 0)) :: (690, 2, some (oIl 4)) :: (692, 1, some (oIc 4)) ::
  (693, 1, some oIadd) :: (694, 1, some oSld) :: (695, 1, some oI2l) :: (696, 3, some (oJc 4294967295)) :: (699, 1, some oLand) :: (700, 1, some oLor) ::
  (701, 3, some (oCI 6 mX6_judge 4)) :: (704, 1, some oPop) :: (705, 1, some (oAl 2)) :: (706, 1, some (oAl 0)) :: (707, 2, some (oIl 4)) :: (709, 1, some (oIc 1)) ::
  (710, 1, some oIadd) :: (711, 1, some oSld) :: (712, 1, some (oAl 0)) :: (713, 2, some (oIl 4)) :: (715, 1, some (oIc 2)) :: (716, 1, some oIadd) ::
  (717, 1, some oSld) :: (718, 1, some (oAl 0)) :: (719, 2, some (oIl 4)) :: (721, 1, some (oIc 3)) :: (722, 1, some oIadd) :: (723, 1, some oSld) ::
  (724, 1, some oI2l) :: (725, 2, some (oIc 32)) :: (727, 1, some oLshl) :: (728, 1, some (oAl 0)) :: (729, 2, some (oIl 4)) :: (731, 1, some (oIc 4)) ::
  (732, 1, some oIadd) :: (733, 1, some oSld) :: (734, 1, some oI2l) :: (735, 3, some (oJc 4294967295)) :: (738, 1, some oLand) :: (739, 1, some oLor) ::
  (740, 3, some (oCI 7 mX7_judge 4)) :: (743, 1, some oPop) :: (744, 3, some (oGoto 1344)) :: (747, 1, some (oAl 1)) :: (748, 1, some (oAl 0)) :: (749, 2, some (oIl 4)) ::
  (751, 1, some (oIc 1)) :: (752, 1, some oIadd) :: (753, 1, some oSld) :: (754, 1, some (oAl 0)) :: (755, 2, some (oIl 4)) :: (757, 1, some (oIc 2)) ::
  (758, 1, some oIadd) :: (759, 1, some oSld) :: (760, 1, some (oAl 0)) :: (761, 2, some (oIl 4)) :: (763, 1, some (oIc 3)) :: (764, 1, some oIadd) ::
  (765, 1, some oSld) :: (766, 3, some (oCJ 6 mX6_takes 4)) :: (769, 1, some oPop2) :: (770, 1, some (oAl 2)) :: (771, 1, some (oAl 0)) :: (772, 2, some (oIl 4)) ::
  (774, 1, some (oIc 1)) :: (775, 1, some oIadd) :: (776, 1, some oSld) :: (777, 1, some (oAl 0)) :: (778, 2, some (oIl 4)) :: (780, 1, some (oIc 2)) ::
  (781, 1, some oIadd) :: (782, 1, some oSld) :: (783, 1, some (oAl 0)) :: (784, 2, some (oIl 4)) :: (786, 1, some (oIc 3)) :: (787, 1, some oIadd) ::
  (788, 1, some oSld) :: (789, 3, some (oCJ 7 mX7_takes 4)) :: (792, 1, some oPop2) :: (793, 3, some (oGoto 1344)) :: (796, 1, some (oAl 1)) :: (797, 1, some (oAl 0)) ::
  (798, 2, some (oIl 4)) :: (800, 1, some (oIc 1)) :: (801, 1, some oIadd) :: (802, 1, some oSld) :: (803, 1, some (oAl 0)) :: (804, 2, some (oIl 4)) ::
  (806, 1, some (oIc 2)) :: (807, 1, some oIadd) :: (808, 1, some oSld) :: (809, 3, some (oCI 6 mX6_flow 3)) :: (812, 1, some oPop) :: (813, 1, some (oAl 2)) ::
  (814, 1, some (oAl 0)) :: (815, 2, some (oIl 4)) :: (817, 1, some (oIc 1)) :: (818, 1, some oIadd) :: (819, 1, some oSld) :: (820, 1, some (oAl 0)) ::
  (821, 2, some (oIl 4)) :: (823, 1, some (oIc 2)) :: (824, 1, some oIadd) :: (825, 1, some oSld) :: (826, 3, some (oCI 7 mX7_flow 3)) :: (829, 1, some oPop) ::
  (830, 3, some (oGoto 1344)) :: (833, 1, some (oAl 1)) :: (834, 1, some (oAl 0)) :: (835, 2, some (oIl 4)) :: (837, 1, some (oIc 1)) :: (838, 1, some oIadd) ::
  (839, 1, some oSld) :: (840, 1, some (oAl 0)) :: (841, 2, some (oIl 4)) :: (843, 1, some (oIc 2)) :: (844, 1, some oIadd) :: (845, 1, some oSld) ::
  (846, 1, some (oAl 0)) :: (847, 2, some (oIl 4)) :: (849, 1, some (oIc 3)) :: (850, 1, some oIadd) :: (851, 1, some oSld) :: (852, 1, some (oAl 0)) ::
  (853, 2, some (oIl 4)) :: (855, 1, some (oIc 4)) :: (856, 1, some oIadd) :: (857, 1, some oSld) :: (858, 1, some (oAl 0)) :: (859, 2, some (oIl 4)) ::
  (861, 1, some (oIc 5)) :: (862, 1, some oIadd) :: (863, 1, some oSld) :: (864, 3, some (oCI 6 mX6_luck 6)) :: (867, 1, some oPop) :: (868, 1, some (oAl 2)) ::
  (869, 1, some (oAl 0)) :: (870, 2, some (oIl 4)) :: (872, 1, some (oIc 1)) :: (873, 1, some oIadd) :: (874, 1, some oSld) :: (875, 1, some (oAl 0)) ::
  (876, 2, some (oIl 4)) :: (878, 1, some (oIc 2)) :: (879, 1, some oIadd) :: (880, 1, some oSld) :: (881, 1, some (oAl 0)) :: (882, 2, some (oIl 4)) ::
  (884, 1, some (oIc 3)) :: (885, 1, some oIadd) :: (886, 1, some oSld) :: (887, 1, some (oAl 0)) :: (888, 2, some (oIl 4)) :: (890, 1, some (oIc 4)) ::
  (891, 1, some oIadd) :: (892, 1, some oSld) :: (893, 1, some (oAl 0)) :: (894, 2, some (oIl 4)) :: (896, 1, some (oIc 5)) :: (897, 1, some oIadd) ::
  (898, 1, some oSld) :: (899, 3, some (oCI 7 mX7_luck 6)) :: (902, 1, some oPop) :: (903, 3, some (oGoto 1344)) :: (906, 1, some (oAl 1)) :: (907, 1, some (oAl 0)) ::
  (908, 2, some (oIl 4)) :: (910, 1, some (oIc 1)) :: (911, 1, some oIadd) :: (912, 1, some oSld) :: (913, 1, some (oAl 0)) :: (914, 2, some (oIl 4)) ::
  (916, 1, some (oIc 2)) :: (917, 1, some oIadd) :: (918, 1, some oSld) :: (919, 1, some (oAl 0)) :: (920, 2, some (oIl 4)) :: (922, 1, some (oIc 3)) ::
  (923, 1, some oIadd) :: (924, 1, some oSld) :: (925, 1, some (oAl 0)) :: (926, 2, some (oIl 4)) :: (928, 1, some (oIc 4)) :: (929, 1, some oIadd) ::
  (930, 1, some oSld) :: (931, 3, some (oCI 6 mX6_signs 5)) :: (934, 1, some oPop) :: (935, 1, some (oAl 2)) :: (936, 1, some (oAl 0)) :: (937, 2, some (oIl 4)) ::
  (939, 1, some (oIc 1)) :: (940, 1, some oIadd) :: (941, 1, some oSld) :: (942, 1, some (oAl 0)) :: (943, 2, some (oIl 4)) :: (945, 1, some (oIc 2)) ::
  (946, 1, some oIadd) :: (947, 1, some oSld) :: (948, 1, some (oAl 0)) :: (949, 2, some (oIl 4)) :: (951, 1, some (oIc 3)) :: (952, 1, some oIadd) ::
  (953, 1, some oSld) :: (954, 1, some (oAl 0)) :: (955, 2, some (oIl 4)) :: (957, 1, some (oIc 4)) :: (958, 1, some oIadd) :: (959, 1, some oSld) ::
  (960, 3, some (oCI 7 mX7_signs 5)) :: (963, 1, some oPop) :: (964, 3, some (oGoto 1344)) :: (967, 1, some (oAl 1)) :: (968, 1, some (oAl 0)) :: (969, 2, some (oIl 4)) ::
  (971, 1, some (oIc 1)) :: (972, 1, some oIadd) :: (973, 1, some oSld) :: (974, 1, some (oAl 0)) :: (975, 2, some (oIl 4)) :: (977, 1, some (oIc 2)) ::
  (978, 1, some oIadd) :: (979, 1, some oSld) :: (980, 1, some (oAl 0)) :: (981, 2, some (oIl 4)) :: (983, 1, some (oIc 3)) :: (984, 1, some oIadd) ::
  (985, 1, some oSld) :: (986, 1, some (oAl 0)) :: (987, 2, some (oIl 4)) :: (989, 1, some (oIc 4)) :: (990, 1, some oIadd) :: (991, 1, some oSld) ::
  (992, 1, some (oAl 0)) :: (993, 2, some (oIl 4)) :: (995, 1, some (oIc 5)) :: (996, 1, some oIadd) :: (997, 1, some oSld) :: (998, 3, some (oCI 6 mX6_knew 6)) ::
  (1001, 1, some oPop) :: (1002, 1, some (oAl 2)) :: (1003, 1, some (oAl 0)) :: (1004, 2, some (oIl 4)) :: (1006, 1, some (oIc 1)) :: (1007, 1, some oIadd) ::
  (1008, 1, some oSld) :: (1009, 1, some (oAl 0)) :: (1010, 2, some (oIl 4)) :: (1012, 1, some (oIc 2)) :: (1013, 1, some oIadd) :: (1014, 1, some oSld) ::
  (1015, 1, some (oAl 0)) :: (1016, 2, some (oIl 4)) :: (1018, 1, some (oIc 3)) :: (1019, 1, some oIadd) :: (1020, 1, some oSld) :: (1021, 1, some (oAl 0)) ::
  (1022, 2, some (oIl 4)) :: (1024, 1, some (oIc 4)) :: (1025, 1, some oIadd) :: (1026, 1, some oSld) :: (1027, 1, some (oAl 0)) :: (1028, 2, some (oIl 4)) ::
  (1030, 1, some (oIc 5)) :: (1031, 1, some oIadd) :: (1032, 1, some oSld) :: (1033, 3, some (oCI 7 mX7_knew 6)) :: (1036, 1, some oPop) :: (1037, 3, some (oGoto 1344)) ::
  (1040, 1, some (oAl 1)) :: (1041, 3, some (oCI 6 mX6_hands 1)) :: (1044, 1, some oPop) :: (1045, 1, some (oAl 2)) :: (1046, 3, some (oCI 7 mX7_hands 1)) :: (1049, 1, some oPop) ::
  (1050, 3, some (oGoto 1344)) :: (1053, 1, some (oAl 1)) :: (1054, 1, some (oAl 0)) :: (1055, 2, some (oIl 4)) :: (1057, 1, some (oIc 1)) :: (1058, 1, some oIadd) ::
  (1059, 1, some oSld) :: (1060, 3, some (oCI 6 mX6_lacking 2)) :: (1063, 1, some oPop) :: (1064, 1, some (oAl 2)) :: (1065, 1, some (oAl 0)) :: (1066, 2, some (oIl 4)) ::
  (1068, 1, some (oIc 1)) :: (1069, 1, some oIadd) :: (1070, 1, some oSld) :: (1071, 3, some (oCI 7 mX7_lacking 2)) :: (1074, 1, some oPop) :: (1075, 3, some (oGoto 1344)) ::
  (1078, 1, some (oAl 1)) :: (1079, 1, some (oAl 0)) :: (1080, 2, some (oIl 4)) :: (1082, 1, some (oIc 1)) :: (1083, 1, some oIadd) :: (1084, 1, some oSld) ::
  (1085, 3, some (oCI 6 mX6_stop 2)) :: (1088, 1, some oPop) :: (1089, 1, some (oAl 2)) :: (1090, 1, some (oAl 0)) :: (1091, 2, some (oIl 4)) :: (1093, 1, some (oIc 1)) ::
  (1094, 1, some oIadd) :: (1095, 1, some oSld) :: (1096, 3, some (oCI 7 mX7_stop 2)) :: (1099, 1, some oPop) :: (1100, 3, some (oGoto 1344)) :: (1103, 1, some (oAl 1)) ::
  (1104, 1, some (oAl 0)) :: (1105, 2, some (oIl 4)) :: (1107, 1, some (oIc 1)) :: (1108, 1, some oIadd) :: (1109, 1, some oSld) :: (1110, 1, some (oAl 0)) ::
  (1111, 2, some (oIl 4)) :: (1113, 1, some (oIc 2)) :: (1114, 1, some oIadd) :: (1115, 1, some oSld) :: (1116, 1, some (oAl 0)) :: (1117, 2, some (oIl 4)) ::
  (1119, 1, some (oIc 3)) :: (1120, 1, some oIadd) :: (1121, 1, some oSld) :: (1122, 1, some (oAl 0)) :: (1123, 2, some (oIl 4)) :: (1125, 1, some (oIc 4)) ::
  (1126, 1, some oIadd) :: (1127, 1, some oSld) :: (1128, 1, some oI2l) :: (1129, 2, some (oIc 32)) :: (1131, 1, some oLshl) :: (1132, 1, some (oAl 0)) ::
  (1133, 2, some (oIl 4)) :: (1135, 1, some (oIc 5)) :: (1136, 1, some oIadd) :: (1137, 1, some oSld) :: (1138, 1, some oI2l) :: (1139, 3, some (oJc 4294967295)) ::
  (1142, 1, some oLand) :: (1143, 1, some oLor) :: (1144, 3, some (oCI 6 mX6_fewest 5)) :: (1147, 1, some (oAl 2)) :: (1148, 1, some (oAl 0)) :: (1149, 2, some (oIl 4)) ::
  (1151, 1, some (oIc 1)) :: (1152, 1, some oIadd) :: (1153, 1, some oSld) :: (1154, 1, some (oAl 0)) :: (1155, 2, some (oIl 4)) :: (1157, 1, some (oIc 2)) ::
  (1158, 1, some oIadd) :: (1159, 1, some oSld) :: (1160, 1, some (oAl 0)) :: (1161, 2, some (oIl 4)) :: (1163, 1, some (oIc 3)) :: (1164, 1, some oIadd) ::
  (1165, 1, some oSld) :: (1166, 1, some (oAl 0)) :: (1167, 2, some (oIl 4)) :: (1169, 1, some (oIc 4)) :: (1170, 1, some oIadd) :: (1171, 1, some oSld) ::
  (1172, 1, some oI2l) :: (1173, 2, some (oIc 32)) :: (1175, 1, some oLshl) :: (1176, 1, some (oAl 0)) :: (1177, 2, some (oIl 4)) :: (1179, 1, some (oIc 5)) ::
  (1180, 1, some oIadd) :: (1181, 1, some oSld) :: (1182, 1, some oI2l) :: (1183, 3, some (oJc 4294967295)) :: (1186, 1, some oLand) :: (1187, 1, some oLor) ::
  (1188, 3, some (oCI 7 mX7_fewest 5)) :: (1191, 3, some (oCmEq 1344)) :: (1194, 1, some (oIc 0)) :: (1195, 1, some oZret) :: (1196, 1, some (oAl 1)) :: (1197, 1, some (oAl 0)) ::
  (1198, 2, some (oIl 4)) :: (1200, 1, some (oIc 1)) :: (1201, 1, some oIadd) :: (1202, 1, some oSld) :: (1203, 3, some (oCI 6 mX6_rule 2)) :: (1206, 1, some oPop) ::
  (1207, 1, some (oAl 2)) :: (1208, 1, some (oAl 0)) :: (1209, 2, some (oIl 4)) :: (1211, 1, some (oIc 1)) :: (1212, 1, some oIadd) :: (1213, 1, some oSld) ::
  (1214, 3, some (oCI 7 mX7_rule 2)) :: (1217, 1, some oPop) :: (1218, 3, some (oGoto 1344)) :: (1221, 1, some (oAl 1)) :: (1222, 1, some (oAl 0)) :: (1223, 2, some (oIl 4)) ::
  (1225, 1, some (oIc 1)) :: (1226, 1, some oIadd) :: (1227, 1, some oSld) :: (1228, 3, some (oCI 6 mX6_burden 2)) :: (1231, 1, some oPop) :: (1232, 1, some (oAl 2)) ::
  (1233, 1, some (oAl 0)) :: (1234, 2, some (oIl 4)) :: (1236, 1, some (oIc 1)) :: (1237, 1, some oIadd) :: (1238, 1, some oSld) :: (1239, 3, some (oCI 7 mX7_burden 2)) ::
  (1242, 1, some oPop) :: (1243, 3, some (oGoto 1344)) :: (1246, 1, some (oAl 1)) :: (1247, 1, some (oAl 0)) :: (1248, 2, some (oIl 4)) :: (1250, 1, some (oIc 1)) ::
  (1251, 1, some oIadd) :: (1252, 1, some oSld) :: (1253, 1, some (oAl 0)) :: (1254, 2, some (oIl 4)) :: (1256, 1, some (oIc 2)) :: (1257, 1, some oIadd) ::
  (1258, 1, some oSld) :: (1259, 1, some (oAl 0)) :: (1260, 2, some (oIl 4)) :: (1262, 1, some (oIc 3)) :: (1263, 1, some oIadd) :: (1264, 1, some oSld) ::
  (1265, 1, some (oAl 0)) :: (1266, 2, some (oIl 4)) :: (1268, 1, some (oIc 4)) :: (1269, 1, some oIadd) :: (1270, 1, some oSld) :: (1271, 1, some (oAl 0)) ::
  (1272, 2, some (oIl 4)) :: (1274, 1, some (oIc 5)) :: (1275, 1, some oIadd) :: (1276, 1, some oSld) :: (1277, 3, some (oCJ 6 mX6_starve 6)) :: (1280, 1, some oPop2) ::
  (1281, 1, some (oAl 2)) :: (1282, 1, some (oAl 0)) :: (1283, 2, some (oIl 4)) :: (1285, 1, some (oIc 1)) :: (1286, 1, some oIadd) :: (1287, 1, some oSld) ::
  (1288, 1, some (oAl 0)) :: (1289, 2, some (oIl 4)) :: (1291, 1, some (oIc 2)) :: (1292, 1, some oIadd) :: (1293, 1, some oSld) :: (1294, 1, some (oAl 0)) ::
  (1295, 2, some (oIl 4)) :: (1297, 1, some (oIc 3)) :: (1298, 1, some oIadd) :: (1299, 1, some oSld) :: (1300, 1, some (oAl 0)) :: (1301, 2, some (oIl 4)) ::
  (1303, 1, some (oIc 4)) :: (1304, 1, some oIadd) :: (1305, 1, some oSld) :: (1306, 1, some (oAl 0)) :: (1307, 2, some (oIl 4)) :: (1309, 1, some (oIc 5)) ::
  (1310, 1, some oIadd) :: (1311, 1, some oSld) :: (1312, 3, some (oCJ 7 mX7_starve 6)) :: (1315, 1, some oPop2) :: (1316, 3, some (oGoto 1344)) :: (1319, 1, some (oAl 1)) ::
  (1320, 1, some (oAl 0)) :: (1321, 2, some (oIl 4)) :: (1323, 1, some (oIc 1)) :: (1324, 1, some oIadd) :: (1325, 1, some oSld) :: (1326, 3, some (oCI 6 mX6_count 2)) ::
  (1329, 1, some oPop) :: (1330, 1, some (oAl 2)) :: (1331, 1, some (oAl 0)) :: (1332, 2, some (oIl 4)) :: (1334, 1, some (oIc 1)) :: (1335, 1, some oIadd) ::
  (1336, 1, some oSld) :: (1337, 3, some (oCI 7 mX7_count 2)) :: (1340, 1, some oPop) :: (1341, 3, some (oGoto 1344)) :: (1344, 3, some (oInc 4 8)) :: (1347, 3, some (oGoto 23)) ::
  (1350, 1, some (oIc 1)) :: (1351, 1, some oZret) :: []
set_option maxRecDepth 100000 in
set_option maxHeartbeats 4000000 in
theorem okL_law : CodeOk mL_law cdL_law := by
  refine ⟨by rfl, ?_⟩
  show CodeAll mL_law cdL_law
  refine ce_op (okNo) ?_
  refine ce_op (okDup (by decide +kernel)) ?_
  refine ce_op (okNo) ?_
  refine ce_op (okAs1 (k := 1) (by decide +kernel) rfl (by decide)) ?_
  refine ce_op (okNo) ?_
  refine ce_op (okDup (by decide +kernel)) ?_
  refine ce_op (okNo) ?_
  refine ce_op (okAs1 (k := 2) (by decide +kernel) rfl (by decide)) ?_
  refine ce_op (okIc1 (n := 1) (by decide +kernel) (by decide)) ?_
  refine ce_op (okNo) ?_
  refine ce_op (okAs1 (k := 3) (by decide +kernel) rfl (by decide)) ?_
  refine ce_op (okIc1 (n := 0) (by decide +kernel) (by decide)) ?_
  refine ce_op (okIs2 (by decide +kernel) (by decide)) ?_
  refine ce_st ?_
  refine ce_op (okIl2 (by decide +kernel)) ?_
  refine ce_op (okAl1 (k := 0) (by decide +kernel) rfl) ?_
  refine ce_op (okSlen rfl (by decide +kernel)) ?_
  refine ce_op (okIc2 (n := 8) (by decide +kernel) (by decide)) ?_
  refine ce_op (okIsub (by decide +kernel)) ?_
  refine ce_op (okCmGt (off := 1320) (by decide +kernel) (by decide)) ?_
  refine ce_op (okAl1 (k := 0) (by decide +kernel) rfl) ?_
  refine ce_op (okIl2 (by decide +kernel)) ?_
  refine ce_op (okSld rfl (by decide +kernel)) ?_
  refine ce_op (okIc2 (n := 31) (by decide +kernel) (by decide)) ?_
  refine ce_op (okIand (by decide +kernel)) ?_
  refine ce_op (okTsw (dO := 1304) (lo := 0) (hi := 24) (offs := #[116, 189, 214, 239, 276, 316, 353, 454, 467, 504, 553, 626, 707, 756, 793, 866, 927, 1000, 1013, 1038, 1063, 1156, 1181, 1206, 1279]) (by decide +kernel) (by decide) (by decide +kernel) (by decide +kernel) (sw_all (by decide +kernel))) ?_
  refine ce_op (okAl1 (k := 1) (by decide +kernel) rfl) ?_
  refine ce_op (okAl1 (k := 0) (by decide +kernel) rfl) ?_
  refine ce_op (okIl2 (by decide +kernel)) ?_
  refine ce_op (okIc1 (n := 1) (by decide +kernel) (by decide)) ?_
  refine ce_op (okIadd (by decide +kernel)) ?_
  refine ce_op (okSld rfl (by decide +kernel)) ?_
  refine ce_op (okAl1 (k := 0) (by decide +kernel) rfl) ?_
  refine ce_op (okIl2 (by decide +kernel)) ?_
  refine ce_op (okIc1 (n := 2) (by decide +kernel) (by decide)) ?_
  refine ce_op (okIadd (by decide +kernel)) ?_
  refine ce_op (okSld rfl (by decide +kernel)) ?_
  refine ce_op (okAl1 (k := 0) (by decide +kernel) rfl) ?_
  refine ce_op (okIl2 (by decide +kernel)) ?_
  refine ce_op (okIc1 (n := 3) (by decide +kernel) (by decide)) ?_
  refine ce_op (okIadd (by decide +kernel)) ?_
  refine ce_op (okSld rfl (by decide +kernel)) ?_
  refine ce_op (okAl1 (k := 0) (by decide +kernel) rfl) ?_
  refine ce_op (okIl2 (by decide +kernel)) ?_
  refine ce_op (okIc1 (n := 4) (by decide +kernel) (by decide)) ?_
  refine ce_op (okIadd (by decide +kernel)) ?_
  refine ce_op (okSld rfl (by decide +kernel)) ?_
  refine ce_op (okAl1 (k := 0) (by decide +kernel) rfl) ?_
  refine ce_op (okIl2 (by decide +kernel)) ?_
  refine ce_op (okIc1 (n := 5) (by decide +kernel) (by decide)) ?_
  refine ce_op (okIadd (by decide +kernel)) ?_
  refine ce_op (okSld rfl (by decide +kernel)) ?_
  refine ce_op (okCI miX6_feed (rV clX6 (x := 21) miX6_feed rfl (by decide +kernel) wd435 wd436 wd437)) ?_
  refine ce_op (okPop (by decide +kernel)) ?_
  refine ce_op (okAl1 (k := 2) (by decide +kernel) rfl) ?_
  refine ce_op (okAl1 (k := 0) (by decide +kernel) rfl) ?_
  refine ce_op (okIl2 (by decide +kernel)) ?_
  refine ce_op (okIc1 (n := 1) (by decide +kernel) (by decide)) ?_
  refine ce_op (okIadd (by decide +kernel)) ?_
  refine ce_op (okSld rfl (by decide +kernel)) ?_
  refine ce_op (okAl1 (k := 0) (by decide +kernel) rfl) ?_
  refine ce_op (okIl2 (by decide +kernel)) ?_
  refine ce_op (okIc1 (n := 2) (by decide +kernel) (by decide)) ?_
  refine ce_op (okIadd (by decide +kernel)) ?_
  refine ce_op (okSld rfl (by decide +kernel)) ?_
  refine ce_op (okAl1 (k := 0) (by decide +kernel) rfl) ?_
  refine ce_op (okIl2 (by decide +kernel)) ?_
  refine ce_op (okIc1 (n := 3) (by decide +kernel) (by decide)) ?_
  refine ce_op (okIadd (by decide +kernel)) ?_
  refine ce_op (okSld rfl (by decide +kernel)) ?_
  refine ce_op (okAl1 (k := 0) (by decide +kernel) rfl) ?_
  refine ce_op (okIl2 (by decide +kernel)) ?_
  refine ce_op (okIc1 (n := 4) (by decide +kernel) (by decide)) ?_
  refine ce_op (okIadd (by decide +kernel)) ?_
  refine ce_op (okSld rfl (by decide +kernel)) ?_
  refine ce_op (okAl1 (k := 0) (by decide +kernel) rfl) ?_
  refine ce_op (okIl2 (by decide +kernel)) ?_
  refine ce_op (okIc1 (n := 5) (by decide +kernel) (by decide)) ?_
  refine ce_op (okIadd (by decide +kernel)) ?_
  refine ce_op (okSld rfl (by decide +kernel)) ?_
  refine ce_op (okCI miX7_feed (rV clX7 (x := 25) miX7_feed rfl (by decide +kernel) wd1169 wd1170 wd1171)) ?_
  refine ce_op (okPop (by decide +kernel)) ?_
  refine ce_op (okGoto (off := 1118) (by decide +kernel) (by decide)) ?_
  refine ce_op (okAl1 (k := 1) (by decide +kernel) rfl) ?_
  refine ce_op (okAl1 (k := 0) (by decide +kernel) rfl) ?_
  refine ce_op (okIl2 (by decide +kernel)) ?_
  refine ce_op (okIc1 (n := 1) (by decide +kernel) (by decide)) ?_
  refine ce_op (okIadd (by decide +kernel)) ?_
  refine ce_op (okSld rfl (by decide +kernel)) ?_
  refine ce_op (okCI miX6_book (rV clX6 (x := 26) miX6_book rfl (by decide +kernel) wd448 wd449 wd450)) ?_
  refine ce_op (okPop (by decide +kernel)) ?_
  refine ce_op (okAl1 (k := 2) (by decide +kernel) rfl) ?_
  refine ce_op (okAl1 (k := 0) (by decide +kernel) rfl) ?_
  refine ce_op (okIl2 (by decide +kernel)) ?_
  refine ce_op (okIc1 (n := 1) (by decide +kernel) (by decide)) ?_
  refine ce_op (okIadd (by decide +kernel)) ?_
  refine ce_op (okSld rfl (by decide +kernel)) ?_
  refine ce_op (okCI miX7_book (rV clX7 (x := 30) miX7_book rfl (by decide +kernel) wd1173 wd1174 wd1175)) ?_
  refine ce_op (okPop (by decide +kernel)) ?_
  refine ce_op (okGoto (off := 1093) (by decide +kernel) (by decide)) ?_
  refine ce_op (okAl1 (k := 1) (by decide +kernel) rfl) ?_
  refine ce_op (okAl1 (k := 0) (by decide +kernel) rfl) ?_
  refine ce_op (okIl2 (by decide +kernel)) ?_
  refine ce_op (okIc1 (n := 1) (by decide +kernel) (by decide)) ?_
  refine ce_op (okIadd (by decide +kernel)) ?_
  refine ce_op (okSld rfl (by decide +kernel)) ?_
  refine ce_op (okCI miX6_fault (rV clX6 (x := 31) miX6_fault rfl (by decide +kernel) wd586 wd587 wd588)) ?_
  refine ce_op (okPop (by decide +kernel)) ?_
  refine ce_op (okAl1 (k := 2) (by decide +kernel) rfl) ?_
  refine ce_op (okAl1 (k := 0) (by decide +kernel) rfl) ?_
  refine ce_op (okIl2 (by decide +kernel)) ?_
  refine ce_op (okIc1 (n := 1) (by decide +kernel) (by decide)) ?_
  refine ce_op (okIadd (by decide +kernel)) ?_
  refine ce_op (okSld rfl (by decide +kernel)) ?_
  refine ce_op (okCI miX7_fault (rV clX7 (x := 34) miX7_fault rfl (by decide +kernel) wd1296 wd1297 wd1298)) ?_
  refine ce_op (okPop (by decide +kernel)) ?_
  refine ce_op (okGoto (off := 1068) (by decide +kernel) (by decide)) ?_
  refine ce_op (okAl1 (k := 1) (by decide +kernel) rfl) ?_
  refine ce_op (okAl1 (k := 0) (by decide +kernel) rfl) ?_
  refine ce_op (okIl2 (by decide +kernel)) ?_
  refine ce_op (okIc1 (n := 1) (by decide +kernel) (by decide)) ?_
  refine ce_op (okIadd (by decide +kernel)) ?_
  refine ce_op (okSld rfl (by decide +kernel)) ?_
  refine ce_op (okAl1 (k := 0) (by decide +kernel) rfl) ?_
  refine ce_op (okIl2 (by decide +kernel)) ?_
  refine ce_op (okIc1 (n := 2) (by decide +kernel) (by decide)) ?_
  refine ce_op (okIadd (by decide +kernel)) ?_
  refine ce_op (okSld rfl (by decide +kernel)) ?_
  refine ce_op (okCI miX6_named (rV clX6 (x := 35) miX6_named rfl (by decide +kernel) wd590 wd591 wd592)) ?_
  refine ce_op (okPop (by decide +kernel)) ?_
  refine ce_op (okAl1 (k := 2) (by decide +kernel) rfl) ?_
  refine ce_op (okAl1 (k := 0) (by decide +kernel) rfl) ?_
  refine ce_op (okIl2 (by decide +kernel)) ?_
  refine ce_op (okIc1 (n := 1) (by decide +kernel) (by decide)) ?_
  refine ce_op (okIadd (by decide +kernel)) ?_
  refine ce_op (okSld rfl (by decide +kernel)) ?_
  refine ce_op (okAl1 (k := 0) (by decide +kernel) rfl) ?_
  refine ce_op (okIl2 (by decide +kernel)) ?_
  refine ce_op (okIc1 (n := 2) (by decide +kernel) (by decide)) ?_
  refine ce_op (okIadd (by decide +kernel)) ?_
  refine ce_op (okSld rfl (by decide +kernel)) ?_
  refine ce_op (okCI miX7_named (rV clX7 (x := 38) miX7_named rfl (by decide +kernel) wd1300 wd1301 wd1302)) ?_
  refine ce_op (okPop (by decide +kernel)) ?_
  refine ce_op (okGoto (off := 1031) (by decide +kernel) (by decide)) ?_
  refine ce_op (okAl1 (k := 1) (by decide +kernel) rfl) ?_
  refine ce_op (okAl1 (k := 0) (by decide +kernel) rfl) ?_
  refine ce_op (okIl2 (by decide +kernel)) ?_
  refine ce_op (okIc1 (n := 1) (by decide +kernel) (by decide)) ?_
  refine ce_op (okIadd (by decide +kernel)) ?_
  refine ce_op (okSld rfl (by decide +kernel)) ?_
  refine ce_op (okAl1 (k := 0) (by decide +kernel) rfl) ?_
  refine ce_op (okIl2 (by decide +kernel)) ?_
  refine ce_op (okIc1 (n := 2) (by decide +kernel) (by decide)) ?_
  refine ce_op (okIadd (by decide +kernel)) ?_
  refine ce_op (okSld rfl (by decide +kernel)) ?_
  refine ce_op (okAl1 (k := 3) (by decide +kernel) rfl) ?_
  refine ce_st ?_
  refine ce_op (okNo) ?_
  refine ce_op (okIs2 (by decide +kernel) (by decide)) ?_
  refine ce_op (okAl1 (k := 2) (by decide +kernel) rfl) ?_
  refine ce_op (okAl1 (k := 0) (by decide +kernel) rfl) ?_
  refine ce_op (okIl2 (by decide +kernel)) ?_
  refine ce_op (okIc1 (n := 1) (by decide +kernel) (by decide)) ?_
  refine ce_op (okIadd (by decide +kernel)) ?_
  refine ce_op (okSld rfl (by decide +kernel)) ?_
  refine ce_op (okAl1 (k := 0) (by decide +kernel) rfl) ?_
  refine ce_op (okIl2 (by decide +kernel)) ?_
  refine ce_op (okIc1 (n := 2) (by decide +kernel) (by decide)) ?_
  refine ce_op (okIadd (by decide +kernel)) ?_
  refine ce_op (okSld rfl (by decide +kernel)) ?_
  refine ce_op (okCI miX7_look (rV clX7 (x := 44) miX7_look rfl (by decide +kernel) wd1304 wd1305 wd1306)) ?_
  refine ce_op (okIs2 (by decide +kernel) (by decide)) ?_
  refine ce_op (okGoto (off := 991) (by decide +kernel) (by decide)) ?_
  refine ce_op (okAl1 (k := 1) (by decide +kernel) rfl) ?_
  refine ce_op (okAl1 (k := 0) (by decide +kernel) rfl) ?_
  refine ce_op (okIl2 (by decide +kernel)) ?_
  refine ce_op (okIc1 (n := 1) (by decide +kernel) (by decide)) ?_
  refine ce_op (okIadd (by decide +kernel)) ?_
  refine ce_op (okSld rfl (by decide +kernel)) ?_
  refine ce_op (okAl1 (k := 0) (by decide +kernel) rfl) ?_
  refine ce_op (okIl2 (by decide +kernel)) ?_
  refine ce_op (okIc1 (n := 2) (by decide +kernel) (by decide)) ?_
  refine ce_op (okIadd (by decide +kernel)) ?_
  refine ce_op (okSld rfl (by decide +kernel)) ?_
  refine ce_op (okCI miX6_firm (rV clX6 (x := 45) miX6_firm rfl (by decide +kernel) wd595 wd596 wd597)) ?_
  refine ce_op (okPop (by decide +kernel)) ?_
  refine ce_op (okAl1 (k := 2) (by decide +kernel) rfl) ?_
  refine ce_op (okAl1 (k := 0) (by decide +kernel) rfl) ?_
  refine ce_op (okIl2 (by decide +kernel)) ?_
  refine ce_op (okIc1 (n := 1) (by decide +kernel) (by decide)) ?_
  refine ce_op (okIadd (by decide +kernel)) ?_
  refine ce_op (okSld rfl (by decide +kernel)) ?_
  refine ce_op (okAl1 (k := 0) (by decide +kernel) rfl) ?_
  refine ce_op (okIl2 (by decide +kernel)) ?_
  refine ce_op (okIc1 (n := 2) (by decide +kernel) (by decide)) ?_
  refine ce_op (okIadd (by decide +kernel)) ?_
  refine ce_op (okSld rfl (by decide +kernel)) ?_
  refine ce_op (okCI miX7_firm (rV clX7 (x := 48) miX7_firm rfl (by decide +kernel) wd1320 wd1321 wd1322)) ?_
  refine ce_op (okPop (by decide +kernel)) ?_
  refine ce_op (okGoto (off := 954) (by decide +kernel) (by decide)) ?_
  refine ce_op (okAl1 (k := 1) (by decide +kernel) rfl) ?_
  refine ce_op (okAl1 (k := 0) (by decide +kernel) rfl) ?_
  refine ce_op (okIl2 (by decide +kernel)) ?_
  refine ce_op (okIc1 (n := 1) (by decide +kernel) (by decide)) ?_
  refine ce_op (okIadd (by decide +kernel)) ?_
  refine ce_op (okSld rfl (by decide +kernel)) ?_
  refine ce_op (okAl1 (k := 0) (by decide +kernel) rfl) ?_
  refine ce_op (okIl2 (by decide +kernel)) ?_
  refine ce_op (okIc1 (n := 2) (by decide +kernel) (by decide)) ?_
  refine ce_op (okIadd (by decide +kernel)) ?_
  refine ce_op (okSld rfl (by decide +kernel)) ?_
  refine ce_op (okAl1 (k := 0) (by decide +kernel) rfl) ?_
  refine ce_op (okIl2 (by decide +kernel)) ?_
  refine ce_op (okIc1 (n := 3) (by decide +kernel) (by decide)) ?_
  refine ce_op (okIadd (by decide +kernel)) ?_
  refine ce_op (okSld rfl (by decide +kernel)) ?_
  refine ce_op (okAl1 (k := 0) (by decide +kernel) rfl) ?_
  refine ce_op (okIl2 (by decide +kernel)) ?_
  refine ce_op (okIc1 (n := 4) (by decide +kernel) (by decide)) ?_
  refine ce_op (okIadd (by decide +kernel)) ?_
  refine ce_op (okSld rfl (by decide +kernel)) ?_
  refine ce_op (okAl1 (k := 0) (by decide +kernel) rfl) ?_
  refine ce_op (okIl2 (by decide +kernel)) ?_
  refine ce_op (okIc1 (n := 5) (by decide +kernel) (by decide)) ?_
  refine ce_op (okIadd (by decide +kernel)) ?_
  refine ce_op (okSld rfl (by decide +kernel)) ?_
  refine ce_op (okAl1 (k := 0) (by decide +kernel) rfl) ?_
  refine ce_op (okIl2 (by decide +kernel)) ?_
  refine ce_op (okIc2 (n := 6) (by decide +kernel) (by decide)) ?_
  refine ce_op (okIadd (by decide +kernel)) ?_
  refine ce_op (okSld rfl (by decide +kernel)) ?_
  refine ce_op (okAl1 (k := 0) (by decide +kernel) rfl) ?_
  refine ce_op (okIl2 (by decide +kernel)) ?_
  refine ce_op (okIc2 (n := 7) (by decide +kernel) (by decide)) ?_
  refine ce_op (okIadd (by decide +kernel)) ?_
  refine ce_op (okSld rfl (by decide +kernel)) ?_
  refine ce_op (okCI miX6_sell (rV clX6 (x := 49) miX6_sell rfl (by decide +kernel) wd624 wd625 wd626)) ?_
  refine ce_op (okPop (by decide +kernel)) ?_
  refine ce_op (okAl1 (k := 2) (by decide +kernel) rfl) ?_
  refine ce_op (okAl1 (k := 0) (by decide +kernel) rfl) ?_
  refine ce_op (okIl2 (by decide +kernel)) ?_
  refine ce_op (okIc1 (n := 1) (by decide +kernel) (by decide)) ?_
  refine ce_op (okIadd (by decide +kernel)) ?_
  refine ce_op (okSld rfl (by decide +kernel)) ?_
  refine ce_op (okAl1 (k := 0) (by decide +kernel) rfl) ?_
  refine ce_op (okIl2 (by decide +kernel)) ?_
  refine ce_op (okIc1 (n := 2) (by decide +kernel) (by decide)) ?_
  refine ce_op (okIadd (by decide +kernel)) ?_
  refine ce_op (okSld rfl (by decide +kernel)) ?_
  refine ce_op (okAl1 (k := 0) (by decide +kernel) rfl) ?_
  refine ce_op (okIl2 (by decide +kernel)) ?_
  refine ce_op (okIc1 (n := 3) (by decide +kernel) (by decide)) ?_
  refine ce_op (okIadd (by decide +kernel)) ?_
  refine ce_op (okSld rfl (by decide +kernel)) ?_
  refine ce_op (okAl1 (k := 0) (by decide +kernel) rfl) ?_
  refine ce_op (okIl2 (by decide +kernel)) ?_
  refine ce_op (okIc1 (n := 4) (by decide +kernel) (by decide)) ?_
  refine ce_op (okIadd (by decide +kernel)) ?_
  refine ce_op (okSld rfl (by decide +kernel)) ?_
  refine ce_op (okAl1 (k := 0) (by decide +kernel) rfl) ?_
  refine ce_op (okIl2 (by decide +kernel)) ?_
  refine ce_op (okIc1 (n := 5) (by decide +kernel) (by decide)) ?_
  refine ce_op (okIadd (by decide +kernel)) ?_
  refine ce_op (okSld rfl (by decide +kernel)) ?_
  refine ce_op (okAl1 (k := 0) (by decide +kernel) rfl) ?_
  refine ce_op (okIl2 (by decide +kernel)) ?_
  refine ce_op (okIc2 (n := 6) (by decide +kernel) (by decide)) ?_
  refine ce_op (okIadd (by decide +kernel)) ?_
  refine ce_op (okSld rfl (by decide +kernel)) ?_
  refine ce_op (okAl1 (k := 0) (by decide +kernel) rfl) ?_
  refine ce_op (okIl2 (by decide +kernel)) ?_
  refine ce_op (okIc2 (n := 7) (by decide +kernel) (by decide)) ?_
  refine ce_op (okIadd (by decide +kernel)) ?_
  refine ce_op (okSld rfl (by decide +kernel)) ?_
  refine ce_op (okCI miX7_sell (rV clX7 (x := 53) miX7_sell rfl (by decide +kernel) wd1342 wd1343 wd1344)) ?_
  refine ce_op (okPop (by decide +kernel)) ?_
  refine ce_op (okGoto (off := 853) (by decide +kernel) (by decide)) ?_
  refine ce_op (okAl1 (k := 1) (by decide +kernel) rfl) ?_
  refine ce_op (okCI miX6_undo (rV clX6 (x := 54) miX6_undo rfl (by decide +kernel) wd631 wd632 wd633)) ?_
  refine ce_op (okPop (by decide +kernel)) ?_
  refine ce_op (okAl1 (k := 2) (by decide +kernel) rfl) ?_
  refine ce_op (okCI miX7_undo (rV clX7 (x := 58) miX7_undo rfl (by decide +kernel) wd1346 wd1347 wd1348)) ?_
  refine ce_op (okPop (by decide +kernel)) ?_
  refine ce_op (okGoto (off := 840) (by decide +kernel) (by decide)) ?_
  refine ce_op (okAl1 (k := 1) (by decide +kernel) rfl) ?_
  refine ce_op (okAl1 (k := 0) (by decide +kernel) rfl) ?_
  refine ce_op (okIl2 (by decide +kernel)) ?_
  refine ce_op (okIc1 (n := 1) (by decide +kernel) (by decide)) ?_
  refine ce_op (okIadd (by decide +kernel)) ?_
  refine ce_op (okSld rfl (by decide +kernel)) ?_
  refine ce_op (okAl1 (k := 0) (by decide +kernel) rfl) ?_
  refine ce_op (okIl2 (by decide +kernel)) ?_
  refine ce_op (okIc1 (n := 2) (by decide +kernel) (by decide)) ?_
  refine ce_op (okIadd (by decide +kernel)) ?_
  refine ce_op (okSld rfl (by decide +kernel)) ?_
  refine ce_op (okCI miX6_pay (rV clX6 (x := 59) miX6_pay rfl (by decide +kernel) wd635 wd636 wd637)) ?_
  refine ce_op (okPop (by decide +kernel)) ?_
  refine ce_op (okAl1 (k := 2) (by decide +kernel) rfl) ?_
  refine ce_op (okAl1 (k := 0) (by decide +kernel) rfl) ?_
  refine ce_op (okIl2 (by decide +kernel)) ?_
  refine ce_op (okIc1 (n := 1) (by decide +kernel) (by decide)) ?_
  refine ce_op (okIadd (by decide +kernel)) ?_
  refine ce_op (okSld rfl (by decide +kernel)) ?_
  refine ce_op (okAl1 (k := 0) (by decide +kernel) rfl) ?_
  refine ce_op (okIl2 (by decide +kernel)) ?_
  refine ce_op (okIc1 (n := 2) (by decide +kernel) (by decide)) ?_
  refine ce_op (okIadd (by decide +kernel)) ?_
  refine ce_op (okSld rfl (by decide +kernel)) ?_
  refine ce_op (okCI miX7_pay (rV clX7 (x := 62) miX7_pay rfl (by decide +kernel) wd1350 wd1351 wd1352)) ?_
  refine ce_op (okPop (by decide +kernel)) ?_
  refine ce_op (okGoto (off := 803) (by decide +kernel) (by decide)) ?_
  refine ce_op (okAl1 (k := 1) (by decide +kernel) rfl) ?_
  refine ce_op (okAl1 (k := 0) (by decide +kernel) rfl) ?_
  refine ce_op (okIl2 (by decide +kernel)) ?_
  refine ce_op (okIc1 (n := 1) (by decide +kernel) (by decide)) ?_
  refine ce_op (okIadd (by decide +kernel)) ?_
  refine ce_op (okSld rfl (by decide +kernel)) ?_
  refine ce_op (okAl1 (k := 0) (by decide +kernel) rfl) ?_
  refine ce_op (okIl2 (by decide +kernel)) ?_
  refine ce_op (okIc1 (n := 2) (by decide +kernel) (by decide)) ?_
  refine ce_op (okIadd (by decide +kernel)) ?_
  refine ce_op (okSld rfl (by decide +kernel)) ?_
  refine ce_op (okAl1 (k := 0) (by decide +kernel) rfl) ?_
  refine ce_op (okIl2 (by decide +kernel)) ?_
  refine ce_op (okIc1 (n := 3) (by decide +kernel) (by decide)) ?_
  refine ce_op (okIadd (by decide +kernel)) ?_
  refine ce_op (okSld rfl (by decide +kernel)) ?_
  refine ce_op (okCI miX6_rounds (rV clX6 (x := 63) miX6_rounds rfl (by decide +kernel) wd640 wd641 wd642)) ?_
  refine ce_op (okPop (by decide +kernel)) ?_
  refine ce_op (okAl1 (k := 2) (by decide +kernel) rfl) ?_
  refine ce_op (okAl1 (k := 0) (by decide +kernel) rfl) ?_
  refine ce_op (okIl2 (by decide +kernel)) ?_
  refine ce_op (okIc1 (n := 1) (by decide +kernel) (by decide)) ?_
  refine ce_op (okIadd (by decide +kernel)) ?_
  refine ce_op (okSld rfl (by decide +kernel)) ?_
  refine ce_op (okAl1 (k := 0) (by decide +kernel) rfl) ?_
  refine ce_op (okIl2 (by decide +kernel)) ?_
  refine ce_op (okIc1 (n := 2) (by decide +kernel) (by decide)) ?_
  refine ce_op (okIadd (by decide +kernel)) ?_
  refine ce_op (okSld rfl (by decide +kernel)) ?_
  refine ce_op (okAl1 (k := 0) (by decide +kernel) rfl) ?_
  refine ce_op (okIl2 (by decide +kernel)) ?_
  refine ce_op (okIc1 (n := 3) (by decide +kernel) (by decide)) ?_
  refine ce_op (okIadd (by decide +kernel)) ?_
  refine ce_op (okSld rfl (by decide +kernel)) ?_
  refine ce_op (okCI miX7_rounds (rV clX7 (x := 67) miX7_rounds rfl (by decide +kernel) wd1354 wd1355 wd1356)) ?_
  refine ce_op (okPop (by decide +kernel)) ?_
  refine ce_op (okGoto (off := 754) (by decide +kernel) (by decide)) ?_
  refine ce_op (okAl1 (k := 1) (by decide +kernel) rfl) ?_
  refine ce_op (okAl1 (k := 0) (by decide +kernel) rfl) ?_
  refine ce_op (okIl2 (by decide +kernel)) ?_
  refine ce_op (okIc1 (n := 1) (by decide +kernel) (by decide)) ?_
  refine ce_op (okIadd (by decide +kernel)) ?_
  refine ce_op (okSld rfl (by decide +kernel)) ?_
  refine ce_op (okAl1 (k := 0) (by decide +kernel) rfl) ?_
  refine ce_op (okIl2 (by decide +kernel)) ?_
  refine ce_op (okIc1 (n := 2) (by decide +kernel) (by decide)) ?_
  refine ce_op (okIadd (by decide +kernel)) ?_
  refine ce_op (okSld rfl (by decide +kernel)) ?_
  refine ce_op (okAl1 (k := 0) (by decide +kernel) rfl) ?_
  refine ce_op (okIl2 (by decide +kernel)) ?_
  refine ce_op (okIc1 (n := 3) (by decide +kernel) (by decide)) ?_
  refine ce_op (okIadd (by decide +kernel)) ?_
  refine ce_op (okSld rfl (by decide +kernel)) ?_
  refine ce_op (okAl1 (k := 0) (by decide +kernel) rfl) ?_
  refine ce_op (okIl2 (by decide +kernel)) ?_
  refine ce_op (okIc1 (n := 4) (by decide +kernel) (by decide)) ?_
  refine ce_op (okIadd (by decide +kernel)) ?_
  refine ce_op (okSld rfl (by decide +kernel)) ?_
  refine ce_op (okAl1 (k := 0) (by decide +kernel) rfl) ?_
  refine ce_op (okIl2 (by decide +kernel)) ?_
  refine ce_op (okIc1 (n := 5) (by decide +kernel) (by decide)) ?_
  refine ce_op (okIadd (by decide +kernel)) ?_
  refine ce_op (okSld rfl (by decide +kernel)) ?_
  refine ce_op (okCI miX6_round (rV clX6 (x := 68) miX6_round rfl (by decide +kernel) wd676 wd677 wd678)) ?_
  refine ce_op (okPop (by decide +kernel)) ?_
  refine ce_op (okAl1 (k := 2) (by decide +kernel) rfl) ?_
  refine ce_op (okAl1 (k := 0) (by decide +kernel) rfl) ?_
  refine ce_op (okIl2 (by decide +kernel)) ?_
  refine ce_op (okIc1 (n := 1) (by decide +kernel) (by decide)) ?_
  refine ce_op (okIadd (by decide +kernel)) ?_
  refine ce_op (okSld rfl (by decide +kernel)) ?_
  refine ce_op (okAl1 (k := 0) (by decide +kernel) rfl) ?_
  refine ce_op (okIl2 (by decide +kernel)) ?_
  refine ce_op (okIc1 (n := 2) (by decide +kernel) (by decide)) ?_
  refine ce_op (okIadd (by decide +kernel)) ?_
  refine ce_op (okSld rfl (by decide +kernel)) ?_
  refine ce_op (okAl1 (k := 0) (by decide +kernel) rfl) ?_
  refine ce_op (okIl2 (by decide +kernel)) ?_
  refine ce_op (okIc1 (n := 3) (by decide +kernel) (by decide)) ?_
  refine ce_op (okIadd (by decide +kernel)) ?_
  refine ce_op (okSld rfl (by decide +kernel)) ?_
  refine ce_op (okAl1 (k := 0) (by decide +kernel) rfl) ?_
  refine ce_op (okIl2 (by decide +kernel)) ?_
  refine ce_op (okIc1 (n := 4) (by decide +kernel) (by decide)) ?_
  refine ce_op (okIadd (by decide +kernel)) ?_
  refine ce_op (okSld rfl (by decide +kernel)) ?_
  refine ce_op (okAl1 (k := 0) (by decide +kernel) rfl) ?_
  refine ce_op (okIl2 (by decide +kernel)) ?_
  refine ce_op (okIc1 (n := 5) (by decide +kernel) (by decide)) ?_
  refine ce_op (okIadd (by decide +kernel)) ?_
  refine ce_op (okSld rfl (by decide +kernel)) ?_
  refine ce_op (okCI miX7_round (rV clX7 (x := 71) miX7_round rfl (by decide +kernel) wd1381 wd1382 wd1383)) ?_
  refine ce_op (okPop (by decide +kernel)) ?_
  refine ce_op (okGoto (off := 681) (by decide +kernel) (by decide)) ?_
  refine ce_op (okAl1 (k := 1) (by decide +kernel) rfl) ?_
  refine ce_op (okAl1 (k := 0) (by decide +kernel) rfl) ?_
  refine ce_op (okIl2 (by decide +kernel)) ?_
  refine ce_op (okIc1 (n := 1) (by decide +kernel) (by decide)) ?_
  refine ce_op (okIadd (by decide +kernel)) ?_
  refine ce_op (okSld rfl (by decide +kernel)) ?_
  refine ce_op (okAl1 (k := 0) (by decide +kernel) rfl) ?_
  refine ce_op (okIl2 (by decide +kernel)) ?_
  refine ce_op (okIc1 (n := 2) (by decide +kernel) (by decide)) ?_
  refine ce_op (okIadd (by decide +kernel)) ?_
  refine ce_op (okSld rfl (by decide +kernel)) ?_
  refine ce_op (okAl1 (k := 0) (by decide +kernel) rfl) ?_
  refine ce_op (okIl2 (by decide +kernel)) ?_
  refine ce_op (okIc1 (n := 3) (by decide +kernel) (by decide)) ?_
  refine ce_op (okIadd (by decide +kernel)) ?_
  refine ce_op (okSld rfl (by decide +kernel)) ?_
  refine ce_op (okI2l (by decide +kernel)) ?_
  refine ce_op (okIc2 (n := 32) (by decide +kernel) (by decide)) ?_
  refine ce_op (okLshl (by decide +kernel)) ?_
  refine ce_op (okAl1 (k := 0) (by decide +kernel) rfl) ?_
  refine ce_op (okIl2 (by decide +kernel)) ?_
  refine ce_op (okIc1 (n := 4) (by decide +kernel) (by decide)) ?_
  refine ce_op (okIadd (by decide +kernel)) ?_
  refine ce_op (okSld rfl (by decide +kernel)) ?_
  refine ce_op (okI2l (by decide +kernel)) ?_
  refine ce_op (okJcL (k := 72) (by decide +kernel) wd1510) ?_
  refine ce_op (okLand (by decide +kernel)) ?_
  refine ce_op (okLor (by decide +kernel)) ?_
  refine ce_op (okCI miX6_judge (rV clX6 (x := 74) miX6_judge rfl (by decide +kernel) wd698 wd699 wd700)) ?_
  refine ce_op (okPop (by decide +kernel)) ?_
  refine ce_op (okAl1 (k := 2) (by decide +kernel) rfl) ?_
  refine ce_op (okAl1 (k := 0) (by decide +kernel) rfl) ?_
  refine ce_op (okIl2 (by decide +kernel)) ?_
  refine ce_op (okIc1 (n := 1) (by decide +kernel) (by decide)) ?_
  refine ce_op (okIadd (by decide +kernel)) ?_
  refine ce_op (okSld rfl (by decide +kernel)) ?_
  refine ce_op (okAl1 (k := 0) (by decide +kernel) rfl) ?_
  refine ce_op (okIl2 (by decide +kernel)) ?_
  refine ce_op (okIc1 (n := 2) (by decide +kernel) (by decide)) ?_
  refine ce_op (okIadd (by decide +kernel)) ?_
  refine ce_op (okSld rfl (by decide +kernel)) ?_
  refine ce_op (okAl1 (k := 0) (by decide +kernel) rfl) ?_
  refine ce_op (okIl2 (by decide +kernel)) ?_
  refine ce_op (okIc1 (n := 3) (by decide +kernel) (by decide)) ?_
  refine ce_op (okIadd (by decide +kernel)) ?_
  refine ce_op (okSld rfl (by decide +kernel)) ?_
  refine ce_op (okI2l (by decide +kernel)) ?_
  refine ce_op (okIc2 (n := 32) (by decide +kernel) (by decide)) ?_
  refine ce_op (okLshl (by decide +kernel)) ?_
  refine ce_op (okAl1 (k := 0) (by decide +kernel) rfl) ?_
  refine ce_op (okIl2 (by decide +kernel)) ?_
  refine ce_op (okIc1 (n := 4) (by decide +kernel) (by decide)) ?_
  refine ce_op (okIadd (by decide +kernel)) ?_
  refine ce_op (okSld rfl (by decide +kernel)) ?_
  refine ce_op (okI2l (by decide +kernel)) ?_
  refine ce_op (okJcL (k := 72) (by decide +kernel) wd1510) ?_
  refine ce_op (okLand (by decide +kernel)) ?_
  refine ce_op (okLor (by decide +kernel)) ?_
  refine ce_op (okCI miX7_judge (rV clX7 (x := 78) miX7_judge rfl (by decide +kernel) wd1398 wd1399 wd1400)) ?_
  refine ce_op (okPop (by decide +kernel)) ?_
  refine ce_op (okGoto (off := 600) (by decide +kernel) (by decide)) ?_
  refine ce_op (okAl1 (k := 1) (by decide +kernel) rfl) ?_
  refine ce_op (okAl1 (k := 0) (by decide +kernel) rfl) ?_
  refine ce_op (okIl2 (by decide +kernel)) ?_
  refine ce_op (okIc1 (n := 1) (by decide +kernel) (by decide)) ?_
  refine ce_op (okIadd (by decide +kernel)) ?_
  refine ce_op (okSld rfl (by decide +kernel)) ?_
  refine ce_op (okAl1 (k := 0) (by decide +kernel) rfl) ?_
  refine ce_op (okIl2 (by decide +kernel)) ?_
  refine ce_op (okIc1 (n := 2) (by decide +kernel) (by decide)) ?_
  refine ce_op (okIadd (by decide +kernel)) ?_
  refine ce_op (okSld rfl (by decide +kernel)) ?_
  refine ce_op (okAl1 (k := 0) (by decide +kernel) rfl) ?_
  refine ce_op (okIl2 (by decide +kernel)) ?_
  refine ce_op (okIc1 (n := 3) (by decide +kernel) (by decide)) ?_
  refine ce_op (okIadd (by decide +kernel)) ?_
  refine ce_op (okSld rfl (by decide +kernel)) ?_
  refine ce_op (okCJ miX6_takes (rV clX6 (x := 79) miX6_takes rfl (by decide +kernel) wd715 wd716 wd717)) ?_
  refine ce_op (okPop2 (by decide +kernel)) ?_
  refine ce_op (okAl1 (k := 2) (by decide +kernel) rfl) ?_
  refine ce_op (okAl1 (k := 0) (by decide +kernel) rfl) ?_
  refine ce_op (okIl2 (by decide +kernel)) ?_
  refine ce_op (okIc1 (n := 1) (by decide +kernel) (by decide)) ?_
  refine ce_op (okIadd (by decide +kernel)) ?_
  refine ce_op (okSld rfl (by decide +kernel)) ?_
  refine ce_op (okAl1 (k := 0) (by decide +kernel) rfl) ?_
  refine ce_op (okIl2 (by decide +kernel)) ?_
  refine ce_op (okIc1 (n := 2) (by decide +kernel) (by decide)) ?_
  refine ce_op (okIadd (by decide +kernel)) ?_
  refine ce_op (okSld rfl (by decide +kernel)) ?_
  refine ce_op (okAl1 (k := 0) (by decide +kernel) rfl) ?_
  refine ce_op (okIl2 (by decide +kernel)) ?_
  refine ce_op (okIc1 (n := 3) (by decide +kernel) (by decide)) ?_
  refine ce_op (okIadd (by decide +kernel)) ?_
  refine ce_op (okSld rfl (by decide +kernel)) ?_
  refine ce_op (okCJ miX7_takes (rV clX7 (x := 83) miX7_takes rfl (by decide +kernel) wd1403 wd1404 wd1405)) ?_
  refine ce_op (okPop2 (by decide +kernel)) ?_
  refine ce_op (okGoto (off := 551) (by decide +kernel) (by decide)) ?_
  refine ce_op (okAl1 (k := 1) (by decide +kernel) rfl) ?_
  refine ce_op (okAl1 (k := 0) (by decide +kernel) rfl) ?_
  refine ce_op (okIl2 (by decide +kernel)) ?_
  refine ce_op (okIc1 (n := 1) (by decide +kernel) (by decide)) ?_
  refine ce_op (okIadd (by decide +kernel)) ?_
  refine ce_op (okSld rfl (by decide +kernel)) ?_
  refine ce_op (okAl1 (k := 0) (by decide +kernel) rfl) ?_
  refine ce_op (okIl2 (by decide +kernel)) ?_
  refine ce_op (okIc1 (n := 2) (by decide +kernel) (by decide)) ?_
  refine ce_op (okIadd (by decide +kernel)) ?_
  refine ce_op (okSld rfl (by decide +kernel)) ?_
  refine ce_op (okCI miX6_flow (rV clX6 (x := 84) miX6_flow rfl (by decide +kernel) wd719 wd720 wd721)) ?_
  refine ce_op (okPop (by decide +kernel)) ?_
  refine ce_op (okAl1 (k := 2) (by decide +kernel) rfl) ?_
  refine ce_op (okAl1 (k := 0) (by decide +kernel) rfl) ?_
  refine ce_op (okIl2 (by decide +kernel)) ?_
  refine ce_op (okIc1 (n := 1) (by decide +kernel) (by decide)) ?_
  refine ce_op (okIadd (by decide +kernel)) ?_
  refine ce_op (okSld rfl (by decide +kernel)) ?_
  refine ce_op (okAl1 (k := 0) (by decide +kernel) rfl) ?_
  refine ce_op (okIl2 (by decide +kernel)) ?_
  refine ce_op (okIc1 (n := 2) (by decide +kernel) (by decide)) ?_
  refine ce_op (okIadd (by decide +kernel)) ?_
  refine ce_op (okSld rfl (by decide +kernel)) ?_
  refine ce_op (okCI miX7_flow (rV clX7 (x := 87) miX7_flow rfl (by decide +kernel) wd1413 wd1414 wd1415)) ?_
  refine ce_op (okPop (by decide +kernel)) ?_
  refine ce_op (okGoto (off := 514) (by decide +kernel) (by decide)) ?_
  refine ce_op (okAl1 (k := 1) (by decide +kernel) rfl) ?_
  refine ce_op (okAl1 (k := 0) (by decide +kernel) rfl) ?_
  refine ce_op (okIl2 (by decide +kernel)) ?_
  refine ce_op (okIc1 (n := 1) (by decide +kernel) (by decide)) ?_
  refine ce_op (okIadd (by decide +kernel)) ?_
  refine ce_op (okSld rfl (by decide +kernel)) ?_
  refine ce_op (okAl1 (k := 0) (by decide +kernel) rfl) ?_
  refine ce_op (okIl2 (by decide +kernel)) ?_
  refine ce_op (okIc1 (n := 2) (by decide +kernel) (by decide)) ?_
  refine ce_op (okIadd (by decide +kernel)) ?_
  refine ce_op (okSld rfl (by decide +kernel)) ?_
  refine ce_op (okAl1 (k := 0) (by decide +kernel) rfl) ?_
  refine ce_op (okIl2 (by decide +kernel)) ?_
  refine ce_op (okIc1 (n := 3) (by decide +kernel) (by decide)) ?_
  refine ce_op (okIadd (by decide +kernel)) ?_
  refine ce_op (okSld rfl (by decide +kernel)) ?_
  refine ce_op (okAl1 (k := 0) (by decide +kernel) rfl) ?_
  refine ce_op (okIl2 (by decide +kernel)) ?_
  refine ce_op (okIc1 (n := 4) (by decide +kernel) (by decide)) ?_
  refine ce_op (okIadd (by decide +kernel)) ?_
  refine ce_op (okSld rfl (by decide +kernel)) ?_
  refine ce_op (okAl1 (k := 0) (by decide +kernel) rfl) ?_
  refine ce_op (okIl2 (by decide +kernel)) ?_
  refine ce_op (okIc1 (n := 5) (by decide +kernel) (by decide)) ?_
  refine ce_op (okIadd (by decide +kernel)) ?_
  refine ce_op (okSld rfl (by decide +kernel)) ?_
  refine ce_op (okCI miX6_luck (rV clX6 (x := 88) miX6_luck rfl (by decide +kernel) wd765 wd766 wd767)) ?_
  refine ce_op (okPop (by decide +kernel)) ?_
  refine ce_op (okAl1 (k := 2) (by decide +kernel) rfl) ?_
  refine ce_op (okAl1 (k := 0) (by decide +kernel) rfl) ?_
  refine ce_op (okIl2 (by decide +kernel)) ?_
  refine ce_op (okIc1 (n := 1) (by decide +kernel) (by decide)) ?_
  refine ce_op (okIadd (by decide +kernel)) ?_
  refine ce_op (okSld rfl (by decide +kernel)) ?_
  refine ce_op (okAl1 (k := 0) (by decide +kernel) rfl) ?_
  refine ce_op (okIl2 (by decide +kernel)) ?_
  refine ce_op (okIc1 (n := 2) (by decide +kernel) (by decide)) ?_
  refine ce_op (okIadd (by decide +kernel)) ?_
  refine ce_op (okSld rfl (by decide +kernel)) ?_
  refine ce_op (okAl1 (k := 0) (by decide +kernel) rfl) ?_
  refine ce_op (okIl2 (by decide +kernel)) ?_
  refine ce_op (okIc1 (n := 3) (by decide +kernel) (by decide)) ?_
  refine ce_op (okIadd (by decide +kernel)) ?_
  refine ce_op (okSld rfl (by decide +kernel)) ?_
  refine ce_op (okAl1 (k := 0) (by decide +kernel) rfl) ?_
  refine ce_op (okIl2 (by decide +kernel)) ?_
  refine ce_op (okIc1 (n := 4) (by decide +kernel) (by decide)) ?_
  refine ce_op (okIadd (by decide +kernel)) ?_
  refine ce_op (okSld rfl (by decide +kernel)) ?_
  refine ce_op (okAl1 (k := 0) (by decide +kernel) rfl) ?_
  refine ce_op (okIl2 (by decide +kernel)) ?_
  refine ce_op (okIc1 (n := 5) (by decide +kernel) (by decide)) ?_
  refine ce_op (okIadd (by decide +kernel)) ?_
  refine ce_op (okSld rfl (by decide +kernel)) ?_
  refine ce_op (okCI miX7_luck (rV clX7 (x := 91) miX7_luck rfl (by decide +kernel) wd1433 wd1434 wd1435)) ?_
  refine ce_op (okPop (by decide +kernel)) ?_
  refine ce_op (okGoto (off := 441) (by decide +kernel) (by decide)) ?_
  refine ce_op (okAl1 (k := 1) (by decide +kernel) rfl) ?_
  refine ce_op (okAl1 (k := 0) (by decide +kernel) rfl) ?_
  refine ce_op (okIl2 (by decide +kernel)) ?_
  refine ce_op (okIc1 (n := 1) (by decide +kernel) (by decide)) ?_
  refine ce_op (okIadd (by decide +kernel)) ?_
  refine ce_op (okSld rfl (by decide +kernel)) ?_
  refine ce_op (okAl1 (k := 0) (by decide +kernel) rfl) ?_
  refine ce_op (okIl2 (by decide +kernel)) ?_
  refine ce_op (okIc1 (n := 2) (by decide +kernel) (by decide)) ?_
  refine ce_op (okIadd (by decide +kernel)) ?_
  refine ce_op (okSld rfl (by decide +kernel)) ?_
  refine ce_op (okAl1 (k := 0) (by decide +kernel) rfl) ?_
  refine ce_op (okIl2 (by decide +kernel)) ?_
  refine ce_op (okIc1 (n := 3) (by decide +kernel) (by decide)) ?_
  refine ce_op (okIadd (by decide +kernel)) ?_
  refine ce_op (okSld rfl (by decide +kernel)) ?_
  refine ce_op (okAl1 (k := 0) (by decide +kernel) rfl) ?_
  refine ce_op (okIl2 (by decide +kernel)) ?_
  refine ce_op (okIc1 (n := 4) (by decide +kernel) (by decide)) ?_
  refine ce_op (okIadd (by decide +kernel)) ?_
  refine ce_op (okSld rfl (by decide +kernel)) ?_
  refine ce_op (okCI miX6_signs (rV clX6 (x := 92) miX6_signs rfl (by decide +kernel) wd779 wd780 wd781)) ?_
  refine ce_op (okPop (by decide +kernel)) ?_
  refine ce_op (okAl1 (k := 2) (by decide +kernel) rfl) ?_
  refine ce_op (okAl1 (k := 0) (by decide +kernel) rfl) ?_
  refine ce_op (okIl2 (by decide +kernel)) ?_
  refine ce_op (okIc1 (n := 1) (by decide +kernel) (by decide)) ?_
  refine ce_op (okIadd (by decide +kernel)) ?_
  refine ce_op (okSld rfl (by decide +kernel)) ?_
  refine ce_op (okAl1 (k := 0) (by decide +kernel) rfl) ?_
  refine ce_op (okIl2 (by decide +kernel)) ?_
  refine ce_op (okIc1 (n := 2) (by decide +kernel) (by decide)) ?_
  refine ce_op (okIadd (by decide +kernel)) ?_
  refine ce_op (okSld rfl (by decide +kernel)) ?_
  refine ce_op (okAl1 (k := 0) (by decide +kernel) rfl) ?_
  refine ce_op (okIl2 (by decide +kernel)) ?_
  refine ce_op (okIc1 (n := 3) (by decide +kernel) (by decide)) ?_
  refine ce_op (okIadd (by decide +kernel)) ?_
  refine ce_op (okSld rfl (by decide +kernel)) ?_
  refine ce_op (okAl1 (k := 0) (by decide +kernel) rfl) ?_
  refine ce_op (okIl2 (by decide +kernel)) ?_
  refine ce_op (okIc1 (n := 4) (by decide +kernel) (by decide)) ?_
  refine ce_op (okIadd (by decide +kernel)) ?_
  refine ce_op (okSld rfl (by decide +kernel)) ?_
  refine ce_op (okCI miX7_signs (rV clX7 (x := 96) miX7_signs rfl (by decide +kernel) wd1439 wd1440 wd1441)) ?_
  refine ce_op (okPop (by decide +kernel)) ?_
  refine ce_op (okGoto (off := 380) (by decide +kernel) (by decide)) ?_
  refine ce_op (okAl1 (k := 1) (by decide +kernel) rfl) ?_
  refine ce_op (okAl1 (k := 0) (by decide +kernel) rfl) ?_
  refine ce_op (okIl2 (by decide +kernel)) ?_
  refine ce_op (okIc1 (n := 1) (by decide +kernel) (by decide)) ?_
  refine ce_op (okIadd (by decide +kernel)) ?_
  refine ce_op (okSld rfl (by decide +kernel)) ?_
  refine ce_op (okAl1 (k := 0) (by decide +kernel) rfl) ?_
  refine ce_op (okIl2 (by decide +kernel)) ?_
  refine ce_op (okIc1 (n := 2) (by decide +kernel) (by decide)) ?_
  refine ce_op (okIadd (by decide +kernel)) ?_
  refine ce_op (okSld rfl (by decide +kernel)) ?_
  refine ce_op (okAl1 (k := 0) (by decide +kernel) rfl) ?_
  refine ce_op (okIl2 (by decide +kernel)) ?_
  refine ce_op (okIc1 (n := 3) (by decide +kernel) (by decide)) ?_
  refine ce_op (okIadd (by decide +kernel)) ?_
  refine ce_op (okSld rfl (by decide +kernel)) ?_
  refine ce_op (okAl1 (k := 0) (by decide +kernel) rfl) ?_
  refine ce_op (okIl2 (by decide +kernel)) ?_
  refine ce_op (okIc1 (n := 4) (by decide +kernel) (by decide)) ?_
  refine ce_op (okIadd (by decide +kernel)) ?_
  refine ce_op (okSld rfl (by decide +kernel)) ?_
  refine ce_op (okAl1 (k := 0) (by decide +kernel) rfl) ?_
  refine ce_op (okIl2 (by decide +kernel)) ?_
  refine ce_op (okIc1 (n := 5) (by decide +kernel) (by decide)) ?_
  refine ce_op (okIadd (by decide +kernel)) ?_
  refine ce_op (okSld rfl (by decide +kernel)) ?_
  refine ce_op (okCI miX6_knew (rV clX6 (x := 97) miX6_knew rfl (by decide +kernel) wd811 wd812 wd813)) ?_
  refine ce_op (okPop (by decide +kernel)) ?_
  refine ce_op (okAl1 (k := 2) (by decide +kernel) rfl) ?_
  refine ce_op (okAl1 (k := 0) (by decide +kernel) rfl) ?_
  refine ce_op (okIl2 (by decide +kernel)) ?_
  refine ce_op (okIc1 (n := 1) (by decide +kernel) (by decide)) ?_
  refine ce_op (okIadd (by decide +kernel)) ?_
  refine ce_op (okSld rfl (by decide +kernel)) ?_
  refine ce_op (okAl1 (k := 0) (by decide +kernel) rfl) ?_
  refine ce_op (okIl2 (by decide +kernel)) ?_
  refine ce_op (okIc1 (n := 2) (by decide +kernel) (by decide)) ?_
  refine ce_op (okIadd (by decide +kernel)) ?_
  refine ce_op (okSld rfl (by decide +kernel)) ?_
  refine ce_op (okAl1 (k := 0) (by decide +kernel) rfl) ?_
  refine ce_op (okIl2 (by decide +kernel)) ?_
  refine ce_op (okIc1 (n := 3) (by decide +kernel) (by decide)) ?_
  refine ce_op (okIadd (by decide +kernel)) ?_
  refine ce_op (okSld rfl (by decide +kernel)) ?_
  refine ce_op (okAl1 (k := 0) (by decide +kernel) rfl) ?_
  refine ce_op (okIl2 (by decide +kernel)) ?_
  refine ce_op (okIc1 (n := 4) (by decide +kernel) (by decide)) ?_
  refine ce_op (okIadd (by decide +kernel)) ?_
  refine ce_op (okSld rfl (by decide +kernel)) ?_
  refine ce_op (okAl1 (k := 0) (by decide +kernel) rfl) ?_
  refine ce_op (okIl2 (by decide +kernel)) ?_
  refine ce_op (okIc1 (n := 5) (by decide +kernel) (by decide)) ?_
  refine ce_op (okIadd (by decide +kernel)) ?_
  refine ce_op (okSld rfl (by decide +kernel)) ?_
  refine ce_op (okCI miX7_knew (rV clX7 (x := 100) miX7_knew rfl (by decide +kernel) wd1467 wd1468 wd1469)) ?_
  refine ce_op (okPop (by decide +kernel)) ?_
  refine ce_op (okGoto (off := 307) (by decide +kernel) (by decide)) ?_
  refine ce_op (okAl1 (k := 1) (by decide +kernel) rfl) ?_
  refine ce_op (okCI miX6_hands (rV clX6 (x := 101) miX6_hands rfl (by decide +kernel) wd815 wd816 wd817)) ?_
  refine ce_op (okPop (by decide +kernel)) ?_
  refine ce_op (okAl1 (k := 2) (by decide +kernel) rfl) ?_
  refine ce_op (okCI miX7_hands (rV clX7 (x := 104) miX7_hands rfl (by decide +kernel) wd1471 wd1472 wd1473)) ?_
  refine ce_op (okPop (by decide +kernel)) ?_
  refine ce_op (okGoto (off := 294) (by decide +kernel) (by decide)) ?_
  refine ce_op (okAl1 (k := 1) (by decide +kernel) rfl) ?_
  refine ce_op (okAl1 (k := 0) (by decide +kernel) rfl) ?_
  refine ce_op (okIl2 (by decide +kernel)) ?_
  refine ce_op (okIc1 (n := 1) (by decide +kernel) (by decide)) ?_
  refine ce_op (okIadd (by decide +kernel)) ?_
  refine ce_op (okSld rfl (by decide +kernel)) ?_
  refine ce_op (okCI miX6_lacking (rV clX6 (x := 105) miX6_lacking rfl (by decide +kernel) wd819 wd820 wd821)) ?_
  refine ce_op (okPop (by decide +kernel)) ?_
  refine ce_op (okAl1 (k := 2) (by decide +kernel) rfl) ?_
  refine ce_op (okAl1 (k := 0) (by decide +kernel) rfl) ?_
  refine ce_op (okIl2 (by decide +kernel)) ?_
  refine ce_op (okIc1 (n := 1) (by decide +kernel) (by decide)) ?_
  refine ce_op (okIadd (by decide +kernel)) ?_
  refine ce_op (okSld rfl (by decide +kernel)) ?_
  refine ce_op (okCI miX7_lacking (rV clX7 (x := 108) miX7_lacking rfl (by decide +kernel) wd1475 wd1476 wd1477)) ?_
  refine ce_op (okPop (by decide +kernel)) ?_
  refine ce_op (okGoto (off := 269) (by decide +kernel) (by decide)) ?_
  refine ce_op (okAl1 (k := 1) (by decide +kernel) rfl) ?_
  refine ce_op (okAl1 (k := 0) (by decide +kernel) rfl) ?_
  refine ce_op (okIl2 (by decide +kernel)) ?_
  refine ce_op (okIc1 (n := 1) (by decide +kernel) (by decide)) ?_
  refine ce_op (okIadd (by decide +kernel)) ?_
  refine ce_op (okSld rfl (by decide +kernel)) ?_
  refine ce_op (okCI miX6_stop (rV clX6 (x := 109) miX6_stop rfl (by decide +kernel) wd835 wd836 wd837)) ?_
  refine ce_op (okPop (by decide +kernel)) ?_
  refine ce_op (okAl1 (k := 2) (by decide +kernel) rfl) ?_
  refine ce_op (okAl1 (k := 0) (by decide +kernel) rfl) ?_
  refine ce_op (okIl2 (by decide +kernel)) ?_
  refine ce_op (okIc1 (n := 1) (by decide +kernel) (by decide)) ?_
  refine ce_op (okIadd (by decide +kernel)) ?_
  refine ce_op (okSld rfl (by decide +kernel)) ?_
  refine ce_op (okCI miX7_stop (rV clX7 (x := 112) miX7_stop rfl (by decide +kernel) wd1479 wd1480 wd1481)) ?_
  refine ce_op (okPop (by decide +kernel)) ?_
  refine ce_op (okGoto (off := 244) (by decide +kernel) (by decide)) ?_
  refine ce_op (okAl1 (k := 1) (by decide +kernel) rfl) ?_
  refine ce_op (okAl1 (k := 0) (by decide +kernel) rfl) ?_
  refine ce_op (okIl2 (by decide +kernel)) ?_
  refine ce_op (okIc1 (n := 1) (by decide +kernel) (by decide)) ?_
  refine ce_op (okIadd (by decide +kernel)) ?_
  refine ce_op (okSld rfl (by decide +kernel)) ?_
  refine ce_op (okAl1 (k := 0) (by decide +kernel) rfl) ?_
  refine ce_op (okIl2 (by decide +kernel)) ?_
  refine ce_op (okIc1 (n := 2) (by decide +kernel) (by decide)) ?_
  refine ce_op (okIadd (by decide +kernel)) ?_
  refine ce_op (okSld rfl (by decide +kernel)) ?_
  refine ce_op (okAl1 (k := 0) (by decide +kernel) rfl) ?_
  refine ce_op (okIl2 (by decide +kernel)) ?_
  refine ce_op (okIc1 (n := 3) (by decide +kernel) (by decide)) ?_
  refine ce_op (okIadd (by decide +kernel)) ?_
  refine ce_op (okSld rfl (by decide +kernel)) ?_
  refine ce_op (okAl1 (k := 0) (by decide +kernel) rfl) ?_
  refine ce_op (okIl2 (by decide +kernel)) ?_
  refine ce_op (okIc1 (n := 4) (by decide +kernel) (by decide)) ?_
  refine ce_op (okIadd (by decide +kernel)) ?_
  refine ce_op (okSld rfl (by decide +kernel)) ?_
  refine ce_op (okI2l (by decide +kernel)) ?_
  refine ce_op (okIc2 (n := 32) (by decide +kernel) (by decide)) ?_
  refine ce_op (okLshl (by decide +kernel)) ?_
  refine ce_op (okAl1 (k := 0) (by decide +kernel) rfl) ?_
  refine ce_op (okIl2 (by decide +kernel)) ?_
  refine ce_op (okIc1 (n := 5) (by decide +kernel) (by decide)) ?_
  refine ce_op (okIadd (by decide +kernel)) ?_
  refine ce_op (okSld rfl (by decide +kernel)) ?_
  refine ce_op (okI2l (by decide +kernel)) ?_
  refine ce_op (okJcL (k := 72) (by decide +kernel) wd1510) ?_
  refine ce_op (okLand (by decide +kernel)) ?_
  refine ce_op (okLor (by decide +kernel)) ?_
  refine ce_op (okCI miX6_fewest (rV clX6 (x := 113) miX6_fewest rfl (by decide +kernel) wd848 wd849 wd850)) ?_
  refine ce_op (okAl1 (k := 2) (by decide +kernel) rfl) ?_
  refine ce_op (okAl1 (k := 0) (by decide +kernel) rfl) ?_
  refine ce_op (okIl2 (by decide +kernel)) ?_
  refine ce_op (okIc1 (n := 1) (by decide +kernel) (by decide)) ?_
  refine ce_op (okIadd (by decide +kernel)) ?_
  refine ce_op (okSld rfl (by decide +kernel)) ?_
  refine ce_op (okAl1 (k := 0) (by decide +kernel) rfl) ?_
  refine ce_op (okIl2 (by decide +kernel)) ?_
  refine ce_op (okIc1 (n := 2) (by decide +kernel) (by decide)) ?_
  refine ce_op (okIadd (by decide +kernel)) ?_
  refine ce_op (okSld rfl (by decide +kernel)) ?_
  refine ce_op (okAl1 (k := 0) (by decide +kernel) rfl) ?_
  refine ce_op (okIl2 (by decide +kernel)) ?_
  refine ce_op (okIc1 (n := 3) (by decide +kernel) (by decide)) ?_
  refine ce_op (okIadd (by decide +kernel)) ?_
  refine ce_op (okSld rfl (by decide +kernel)) ?_
  refine ce_op (okAl1 (k := 0) (by decide +kernel) rfl) ?_
  refine ce_op (okIl2 (by decide +kernel)) ?_
  refine ce_op (okIc1 (n := 4) (by decide +kernel) (by decide)) ?_
  refine ce_op (okIadd (by decide +kernel)) ?_
  refine ce_op (okSld rfl (by decide +kernel)) ?_
  refine ce_op (okI2l (by decide +kernel)) ?_
  refine ce_op (okIc2 (n := 32) (by decide +kernel) (by decide)) ?_
  refine ce_op (okLshl (by decide +kernel)) ?_
  refine ce_op (okAl1 (k := 0) (by decide +kernel) rfl) ?_
  refine ce_op (okIl2 (by decide +kernel)) ?_
  refine ce_op (okIc1 (n := 5) (by decide +kernel) (by decide)) ?_
  refine ce_op (okIadd (by decide +kernel)) ?_
  refine ce_op (okSld rfl (by decide +kernel)) ?_
  refine ce_op (okI2l (by decide +kernel)) ?_
  refine ce_op (okJcL (k := 72) (by decide +kernel) wd1510) ?_
  refine ce_op (okLand (by decide +kernel)) ?_
  refine ce_op (okLor (by decide +kernel)) ?_
  refine ce_op (okCI miX7_fewest (rV clX7 (x := 117) miX7_fewest rfl (by decide +kernel) wd1486 wd1487 wd1488)) ?_
  refine ce_op (okCmEq (off := 153) (by decide +kernel) (by decide)) ?_
  refine ce_op (okIc1 (n := 0) (by decide +kernel) (by decide)) ?_
  refine ce_op (okZret (by decide +kernel) rfl) ?_
  refine ce_op (okAl1 (k := 1) (by decide +kernel) rfl) ?_
  refine ce_op (okAl1 (k := 0) (by decide +kernel) rfl) ?_
  refine ce_op (okIl2 (by decide +kernel)) ?_
  refine ce_op (okIc1 (n := 1) (by decide +kernel) (by decide)) ?_
  refine ce_op (okIadd (by decide +kernel)) ?_
  refine ce_op (okSld rfl (by decide +kernel)) ?_
  refine ce_op (okCI miX6_rule (rV clX6 (x := 118) miX6_rule rfl (by decide +kernel) wd860 wd861 wd862)) ?_
  refine ce_op (okPop (by decide +kernel)) ?_
  refine ce_op (okAl1 (k := 2) (by decide +kernel) rfl) ?_
  refine ce_op (okAl1 (k := 0) (by decide +kernel) rfl) ?_
  refine ce_op (okIl2 (by decide +kernel)) ?_
  refine ce_op (okIc1 (n := 1) (by decide +kernel) (by decide)) ?_
  refine ce_op (okIadd (by decide +kernel)) ?_
  refine ce_op (okSld rfl (by decide +kernel)) ?_
  refine ce_op (okCI miX7_rule (rV clX7 (x := 121) miX7_rule rfl (by decide +kernel) wd1490 wd1491 wd1492)) ?_
  refine ce_op (okPop (by decide +kernel)) ?_
  refine ce_op (okGoto (off := 126) (by decide +kernel) (by decide)) ?_
  refine ce_op (okAl1 (k := 1) (by decide +kernel) rfl) ?_
  refine ce_op (okAl1 (k := 0) (by decide +kernel) rfl) ?_
  refine ce_op (okIl2 (by decide +kernel)) ?_
  refine ce_op (okIc1 (n := 1) (by decide +kernel) (by decide)) ?_
  refine ce_op (okIadd (by decide +kernel)) ?_
  refine ce_op (okSld rfl (by decide +kernel)) ?_
  refine ce_op (okCI miX6_burden (rV clX6 (x := 122) miX6_burden rfl (by decide +kernel) wd864 wd865 wd866)) ?_
  refine ce_op (okPop (by decide +kernel)) ?_
  refine ce_op (okAl1 (k := 2) (by decide +kernel) rfl) ?_
  refine ce_op (okAl1 (k := 0) (by decide +kernel) rfl) ?_
  refine ce_op (okIl2 (by decide +kernel)) ?_
  refine ce_op (okIc1 (n := 1) (by decide +kernel) (by decide)) ?_
  refine ce_op (okIadd (by decide +kernel)) ?_
  refine ce_op (okSld rfl (by decide +kernel)) ?_
  refine ce_op (okCI miX7_burden (rV clX7 (x := 125) miX7_burden rfl (by decide +kernel) wd1494 wd1495 wd1496)) ?_
  refine ce_op (okPop (by decide +kernel)) ?_
  refine ce_op (okGoto (off := 101) (by decide +kernel) (by decide)) ?_
  refine ce_op (okAl1 (k := 1) (by decide +kernel) rfl) ?_
  refine ce_op (okAl1 (k := 0) (by decide +kernel) rfl) ?_
  refine ce_op (okIl2 (by decide +kernel)) ?_
  refine ce_op (okIc1 (n := 1) (by decide +kernel) (by decide)) ?_
  refine ce_op (okIadd (by decide +kernel)) ?_
  refine ce_op (okSld rfl (by decide +kernel)) ?_
  refine ce_op (okAl1 (k := 0) (by decide +kernel) rfl) ?_
  refine ce_op (okIl2 (by decide +kernel)) ?_
  refine ce_op (okIc1 (n := 2) (by decide +kernel) (by decide)) ?_
  refine ce_op (okIadd (by decide +kernel)) ?_
  refine ce_op (okSld rfl (by decide +kernel)) ?_
  refine ce_op (okAl1 (k := 0) (by decide +kernel) rfl) ?_
  refine ce_op (okIl2 (by decide +kernel)) ?_
  refine ce_op (okIc1 (n := 3) (by decide +kernel) (by decide)) ?_
  refine ce_op (okIadd (by decide +kernel)) ?_
  refine ce_op (okSld rfl (by decide +kernel)) ?_
  refine ce_op (okAl1 (k := 0) (by decide +kernel) rfl) ?_
  refine ce_op (okIl2 (by decide +kernel)) ?_
  refine ce_op (okIc1 (n := 4) (by decide +kernel) (by decide)) ?_
  refine ce_op (okIadd (by decide +kernel)) ?_
  refine ce_op (okSld rfl (by decide +kernel)) ?_
  refine ce_op (okAl1 (k := 0) (by decide +kernel) rfl) ?_
  refine ce_op (okIl2 (by decide +kernel)) ?_
  refine ce_op (okIc1 (n := 5) (by decide +kernel) (by decide)) ?_
  refine ce_op (okIadd (by decide +kernel)) ?_
  refine ce_op (okSld rfl (by decide +kernel)) ?_
  refine ce_op (okCJ miX6_starve (rV clX6 (x := 126) miX6_starve rfl (by decide +kernel) wd876 wd877 wd878)) ?_
  refine ce_op (okPop2 (by decide +kernel)) ?_
  refine ce_op (okAl1 (k := 2) (by decide +kernel) rfl) ?_
  refine ce_op (okAl1 (k := 0) (by decide +kernel) rfl) ?_
  refine ce_op (okIl2 (by decide +kernel)) ?_
  refine ce_op (okIc1 (n := 1) (by decide +kernel) (by decide)) ?_
  refine ce_op (okIadd (by decide +kernel)) ?_
  refine ce_op (okSld rfl (by decide +kernel)) ?_
  refine ce_op (okAl1 (k := 0) (by decide +kernel) rfl) ?_
  refine ce_op (okIl2 (by decide +kernel)) ?_
  refine ce_op (okIc1 (n := 2) (by decide +kernel) (by decide)) ?_
  refine ce_op (okIadd (by decide +kernel)) ?_
  refine ce_op (okSld rfl (by decide +kernel)) ?_
  refine ce_op (okAl1 (k := 0) (by decide +kernel) rfl) ?_
  refine ce_op (okIl2 (by decide +kernel)) ?_
  refine ce_op (okIc1 (n := 3) (by decide +kernel) (by decide)) ?_
  refine ce_op (okIadd (by decide +kernel)) ?_
  refine ce_op (okSld rfl (by decide +kernel)) ?_
  refine ce_op (okAl1 (k := 0) (by decide +kernel) rfl) ?_
  refine ce_op (okIl2 (by decide +kernel)) ?_
  refine ce_op (okIc1 (n := 4) (by decide +kernel) (by decide)) ?_
  refine ce_op (okIadd (by decide +kernel)) ?_
  refine ce_op (okSld rfl (by decide +kernel)) ?_
  refine ce_op (okAl1 (k := 0) (by decide +kernel) rfl) ?_
  refine ce_op (okIl2 (by decide +kernel)) ?_
  refine ce_op (okIc1 (n := 5) (by decide +kernel) (by decide)) ?_
  refine ce_op (okIadd (by decide +kernel)) ?_
  refine ce_op (okSld rfl (by decide +kernel)) ?_
  refine ce_op (okCJ miX7_starve (rV clX7 (x := 130) miX7_starve rfl (by decide +kernel) wd1502 wd1503 wd1504)) ?_
  refine ce_op (okPop2 (by decide +kernel)) ?_
  refine ce_op (okGoto (off := 28) (by decide +kernel) (by decide)) ?_
  refine ce_op (okAl1 (k := 1) (by decide +kernel) rfl) ?_
  refine ce_op (okAl1 (k := 0) (by decide +kernel) rfl) ?_
  refine ce_op (okIl2 (by decide +kernel)) ?_
  refine ce_op (okIc1 (n := 1) (by decide +kernel) (by decide)) ?_
  refine ce_op (okIadd (by decide +kernel)) ?_
  refine ce_op (okSld rfl (by decide +kernel)) ?_
  refine ce_op (okCI miX6_count (rV clX6 (x := 131) miX6_count rfl (by decide +kernel) wd898 wd899 wd900)) ?_
  refine ce_op (okPop (by decide +kernel)) ?_
  refine ce_op (okAl1 (k := 2) (by decide +kernel) rfl) ?_
  refine ce_op (okAl1 (k := 0) (by decide +kernel) rfl) ?_
  refine ce_op (okIl2 (by decide +kernel)) ?_
  refine ce_op (okIc1 (n := 1) (by decide +kernel) (by decide)) ?_
  refine ce_op (okIadd (by decide +kernel)) ?_
  refine ce_op (okSld rfl (by decide +kernel)) ?_
  refine ce_op (okCI miX7_count (rV clX7 (x := 134) miX7_count rfl (by decide +kernel) wd1506 wd1507 wd1508)) ?_
  refine ce_op (okPop (by decide +kernel)) ?_
  refine ce_op (okGoto (off := 3) (by decide +kernel) (by decide)) ?_
  refine ce_op (okInc (n := 8) (by decide +kernel) (by decide)) ?_
  refine ce_op (okGoto (off := (-1324)) (by decide +kernel) (by decide)) ?_
  refine ce_op (okIc1 (n := 1) (by decide +kernel) (by decide)) ?_
  refine ce_op (okZret (by decide +kernel) rfl) ?_
  exact ce_nil
