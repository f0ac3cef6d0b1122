set_option maxRecDepth 100000 in
def cdL_law : List CE := (0, 3, some oNo) :: (3, 1, some oDup) :: (4, 3, some oNo) :: (7, 1, some (oAs 1)) :: (8, 3, some oNo) :: (11, 1, some oDup) ::
  (12, 3, some oNo) :: (15, 1, some (oAs 2)) :: (16, 1, some (oIc 1)) :: (17, 2, some oNo) :: (19, 1, some (oAs 3)) :: (20, 1, some (oIc 0)) ::
  (21, 2, some (oIs 4)) :: (23, 0, none) :: (23, 2, some (oIl 4)) :: (25, 1, some (oAl 0)) :: (26, 1, some oSlen) :: (27, 2, some (oIc 8)) ::
  (29, 1, some oIsub) :: (30, 3, some (oCmGt 1378)) :: (33, 1, some (oAl 0)) :: (34, 2, some (oIl 4)) :: (36, 1, some oSld) :: (37, 2, some (oIc 31)) ::
  (39, 1, some oIand) :: (40, 116, some (oSw [(0, 156), (1, 229), (2, 254), (3, 279), (4, 316), (5, 384), (6, 421), (7, 522), (8, 535), (9, 572), (10, 621), (11, 694), (12, 775), (13, 824), (14, 861), (15, 934), (16, 995), (17, 1068), (18, 1081), (19, 1106), (20, 1131), (21, 1224), (22, 1249), (23, 1274), (24, 1347)] 1372)) :: (156, 1, some (oAl 1)) :: (157, 1, some (oAl 0)) :: (158, 2, some (oIl 4)) :: (160, 1, some (oIc 1)) ::
  (161, 1, some oIadd) :: (162, 1, some oSld) :: (163, 1, some (oAl 0)) :: (164, 2, some (oIl 4)) :: (166, 1, some (oIc 2)) :: (167, 1, some oIadd) ::
  (168, 1, some oSld) :: (169, 1, some (oAl 0)) :: (170, 2, some (oIl 4)) :: (172, 1, some (oIc 3)) :: (173, 1, some oIadd) :: (174, 1, some oSld) ::
  (175, 1, some (oAl 0)) :: (176, 2, some (oIl 4)) :: (178, 1, some (oIc 4)) :: (179, 1, some oIadd) :: (180, 1, some oSld) :: (181, 1, some (oAl 0)) ::
  (182, 2, some (oIl 4)) :: (184, 1, some (oIc 5)) :: (185, 1, some oIadd) :: (186, 1, some oSld) :: (187, 3, some (oCI 6 mX6_feed 6)) :: (190, 1, some oPop) ::
  (191, 1, some (oAl 2)) :: (192, 1, some (oAl 0)) :: (193, 2, some (oIl 4)) :: (195, 1, some (oIc 1)) :: (196, 1, some oIadd) :: (197, 1, some oSld) ::
  (198, 1, some (oAl 0)) :: (199, 2, some (oIl 4)) :: (201, 1, some (oIc 2)) :: (202, 1, some oIadd) :: (203, 1, some oSld) :: (204, 1, some (oAl 0)) ::
  (205, 2, some (oIl 4)) :: (207, 1, some (oIc 3)) :: (208, 1, some oIadd) :: (209, 1, some oSld) :: (210, 1, some (oAl 0)) :: (211, 2, some (oIl 4)) ::
  (213, 1, some (oIc 4)) :: (214, 1, some oIadd) :: (215, 1, some oSld) :: (216, 1, some (oAl 0)) :: (217, 2, some (oIl 4)) :: (219, 1, some (oIc 5)) ::
  (220, 1, some oIadd) :: (221, 1, some oSld) :: (222, 3, some (oCI 7 mX7_feed 6)) :: (225, 1, some oPop) :: (226, 3, some (oGoto 1372)) :: (229, 1, some (oAl 1)) ::
  (230, 1, some (oAl 0)) :: (231, 2, some (oIl 4)) :: (233, 1, some (oIc 1)) :: (234, 1, some oIadd) :: (235, 1, some oSld) :: (236, 3, some (oCI 6 mX6_book 2)) ::
  (239, 1, some oPop) :: (240, 1, some (oAl 2)) :: (241, 1, some (oAl 0)) :: (242, 2, some (oIl 4)) :: (244, 1, some (oIc 1)) :: (245, 1, some oIadd) ::
  (246, 1, some oSld) :: (247, 3, some (oCI 7 mX7_book 2)) :: (250, 1, some oPop) :: (251, 3, some (oGoto 1372)) :: (254, 1, some (oAl 1)) :: (255, 1, some (oAl 0)) ::
  (256, 2, some (oIl 4)) :: (258, 1, some (oIc 1)) :: (259, 1, some oIadd) :: (260, 1, some oSld) :: (261, 3, some (oCI 6 mX6_fault 2)) :: (264, 1, some oPop) ::
  (265, 1, some (oAl 2)) :: (266, 1, some (oAl 0)) :: (267, 2, some (oIl 4)) :: (269, 1, some (oIc 1)) :: (270, 1, some oIadd) :: (271, 1, some oSld) ::
  (272, 3, some (oCI 7 mX7_fault 2)) :: (275, 1, some oPop) :: (276, 3, some (oGoto 1372)) :: (279, 1, some (oAl 1)) :: (280, 1, some (oAl 0)) :: (281, 2, some (oIl 4)) ::
  (283, 1, some (oIc 1)) :: (284, 1, some oIadd) :: (285, 1, some oSld) :: (286, 1, some (oAl 0)) :: (287, 2, some (oIl 4)) :: (289, 1, some (oIc 2)) ::
  (290, 1, some oIadd) :: (291, 1, some oSld) :: (292, 3, some (oCI 6 mX6_named 3)) :: (295, 1, some oPop) :: (296, 1, some (oAl 2)) :: (297, 1, some (oAl 0)) ::
  (298, 2, some (oIl 4)) :: (300, 1, some (oIc 1)) :: (301, 1, some oIadd) :: (302, 1, some oSld) :: (303, 1, some (oAl 0)) :: (304, 2, some (oIl 4)) ::
  (306, 1, some (oIc 2)) :: (307, 1, some oIadd) :: (308, 1, some oSld) :: (309, 3, some (oCI 7 mX7_named 3)) :: (312, 1, some oPop) :: (313, 3, some (oGoto 1372)) ::
  (316, 1, some (oAl 1)) :: (317, 1, some (oAl 0)) :: (318, 2, some (oIl 4)) :: (320, 1, some (oIc 1)) :: (321, 1, some oIadd) :: (322, 1, some oSld) ::
  (323, 1, some (oAl 0)) :: (324, 2, some (oIl 4)) :: (326, 1, some (oIc 2)) :: (327, 1, some oIadd) :: (328, 1, some oSld) :: (329, 1, some (oAl 3)) ::
  (330, 0, none) :: (330, 3, some oNo) :: (333, 2, some (oIs 5)) :: (335, 1, some (oAl 2)) :: (336, 1, some (oAl 0)) :: (337, 2, some (oIl 4)) :: (339, 1, some (oIc 1)) ::
  (340, 1, some oIadd) :: (341, 1, some oSld) :: (342, 1, some (oAl 0)) :: (343, 2, some (oIl 4)) :: (345, 1, some (oIc 2)) :: (346, 1, some oIadd) ::
  (347, 1, some oSld) :: (348, 3, some (oCI 7 mX7_look 3)) :: (351, 2, some (oIs 6)) :: (353, 1, some (oAl 2)) :: (354, 3, some (oCI 7 mX7_thrown 1)) :: (357, 2, some (oIl 5)) ::
  (359, 3, some (oCmEq 364)) :: (362, 1, some (oIc 0)) :: (363, 1, some oZret) :: (364, 2, some (oIl 5)) :: (366, 3, some (oIfNe 381)) :: (369, 1, some (oAl 3)) ::
  (370, 1, some (oIc 0)) :: (371, 1, some oJald) :: (372, 2, some (oIl 6)) :: (374, 1, some oI2l) :: (375, 1, some oLcmp) :: (376, 3, some (oIfEq 381)) ::
  (379, 1, some (oIc 0)) :: (380, 1, some oZret) :: (381, 3, some (oGoto 1372)) :: (384, 1, some (oAl 1)) :: (385, 1, some (oAl 0)) :: (386, 2, some (oIl 4)) ::
  (388, 1, some (oIc 1)) :: (389, 1, some oIadd) :: (390, 1, some oSld) :: (391, 1, some (oAl 0)) :: (392, 2, some (oIl 4)) :: (394, 1, some (oIc 2)) ::
  (395, 1, some oIadd) :: (396, 1, some oSld) :: (397, 3, some (oCI 6 mX6_firm 3)) :: (400, 1, some oPop) :: (401, 1, some (oAl 2)) :: (402, 1, some (oAl 0)) ::
  (403, 2, some (oIl 4)) :: (405, 1, some (oIc 1)) :: (406, 1, some oIadd) :: (407, 1, some oSld) :: (408, 1, some (oAl 0)) :: (409, 2, some (oIl 4)) ::
  (411, 1, some (oIc 2)) :: (412, 1, some oIadd) :: (413, 1, some oSld) :: (414, 3, some (oCI 7 mX7_firm 3)) :: (417, 1, some oPop) :: (418, 3, some (oGoto 1372)) ::
  (421, 1, some (oAl 1)) :: (422, 1, some (oAl 0)) :: (423, 2, some (oIl 4)) :: (425, 1, some (oIc 1)) :: (426, 1, some oIadd) :: (427, 1, some oSld) ::
  (428, 1, some (oAl 0)) :: (429, 2, some (oIl 4)) :: (431, 1, some (oIc 2)) :: (432, 1, some oIadd) :: (433, 1, some oSld) :: (434, 1, some (oAl 0)) ::
  (435, 2, some (oIl 4)) :: (437, 1, some (oIc 3)) :: (438, 1, some oIadd) :: (439, 1, some oSld) :: (440, 1, some (oAl 0)) :: (441, 2, some (oIl 4)) ::
  (443, 1, some (oIc 4)) :: (444, 1, some oIadd) :: (445, 1, some oSld) :: (446, 1, some (oAl 0)) :: (447, 2, some (oIl 4)) :: (449, 1, some (oIc 5)) ::
  (450, 1, some oIadd) :: (451, 1, some oSld) :: (452, 1, some (oAl 0)) :: (453, 2, some (oIl 4)) :: (455, 2, some (oIc 6)) :: (457, 1, some oIadd) ::
  (458, 1, some oSld) :: (459, 1, some (oAl 0)) :: (460, 2, some (oIl 4)) :: (462, 2, some (oIc 7)) :: (464, 1, some oIadd) :: (465, 1, some oSld) ::
  (466, 3, some (oCI 6 mX6_sell 8)) :: (469, 1, some oPop) :: (470, 1, some (oAl 2)) :: (471, 1, some (oAl 0)) :: (472, 2, some (oIl 4)) :: (474, 1, some (oIc 1)) ::
  (475, 1, some oIadd) :: (476, 1, some oSld) :: (477, 1, some (oAl 0)) :: (478, 2, some (oIl 4)) :: (480, 1, some (oIc 2)) :: (481, 1, some oIadd) ::
  (482, 1, some oSld) :: (483, 1, some (oAl 0)) :: (484, 2, some (oIl 4)) :: (486, 1, some (oIc 3)) :: (487, 1, some oIadd) :: (488, 1, some oSld) ::
  (489, 1, some (oAl 0)) :: (490, 2, some (oIl 4)) :: (492, 1, some (oIc 4)) :: (493, 1, some oIadd) :: (494, 1, some oSld) :: (495, 1, some (oAl 0)) ::
  (496, 2, some (oIl 4)) :: (498, 1, some (oIc 5)) :: (499, 1, some oIadd) :: (500, 1, some oSld) :: (501, 1, some (oAl 0)) :: (502, 2, some (oIl 4)) ::
  (504, 2, some (oIc 6)) :: (506, 1, some oIadd) :: (507, 1, some oSld) :: (508, 1, some (oAl 0)) :: (509, 2, some (oIl 4)) :: (511, 2, some (oIc 7)) ::
  (513, 1, some oIadd) :: (514, 1, some oSld) :: (515, 3, some (oCI 7 mX7_sell 8)) :: (518, 1, some oPop) :: (519, 3, some (oGoto 1372)) :: (522, 1, some (oAl 1)) ::
  (523, 3, some (oCI 6 mX6_undo 1)) :: (526, 1, some oPop) :: (527, 1, some (oAl 2)) :: (528, 3, some (oCI 7 mX7_undo 1)) :: (531, 1, some oPop) :: (532, 3, some (oGoto 1372)) ::
  (535, 1, some (oAl 1)) :: (536, 1, some (oAl 0)) :: (537, 2, some (oIl 4)) :: (539, 1, some (oIc 1)) :: (540, 1, some oIadd) :: (541, 1, some oSld) ::
  (542, 1, some (oAl 0)) :: (543, 2, some (oIl 4)) :: (545, 1, some (oIc 2)) :: (546, 1, some oIadd) :: (547, 1, some oSld) :: (548, 3, some (oCI 6 mX6_pay 3)) ::
  (551, 1, some oPop) :: (552, 1, some (oAl 2)) :: (553, 1, some (oAl 0)) :: (554, 2, some (oIl 4)) :: (556, 1, some (oIc 1)) :: (557, 1, some oIadd) ::
  (558, 1, some oSld) :: (559, 1, some (oAl 0)) :: (560, 2, some (oIl 4)) :: (562, 1, some (oIc 2)) :: (563, 1, some oIadd) :: (564, 1, some oSld) ::
  (565, 3, some (oCI 7 mX7_pay 3)) :: (568, 1, some oPop) :: (569, 3, some (oGoto 1372)) :: (572, 1, some (oAl 1)) :: (573, 1, some (oAl 0)) :: (574, 2, some (oIl 4)) ::
  (576, 1, some (oIc 1)) :: (577, 1, some oIadd) :: (578, 1, some oSld) :: (579, 1, some (oAl 0)) :: (580, 2, some (oIl 4)) :: (582, 1, some (oIc 2)) ::
  (583, 1, some oIadd) :: (584, 1, some oSld) :: (585, 1, some (oAl 0)) :: (586, 2, some (oIl 4)) :: (588, 1, some (oIc 3)) :: (589, 1, some oIadd) ::
  (590, 1, some oSld) :: (591, 3, some (oCI 6 mX6_rounds 4)) :: (594, 1, some oPop) :: (595, 1, some (oAl 2)) :: (596, 1, some (oAl 0)) :: (597, 2, some (oIl 4)) ::
  (599, 1, some (oIc 1)) :: (600, 1, some oIadd) :: (601, 1, some oSld) :: (602, 1, some (oAl 0)) :: (603, 2, some (oIl 4)) :: (605, 1, some (oIc 2)) ::
  (606, 1, some oIadd) :: (607, 1, some oSld) :: (608, 1, some (oAl 0)) :: (609, 2, some (oIl 4)) :: (611, 1, some (oIc 3)) :: (612, 1, some oIadd) ::
  (613, 1, some oSld) :: (614, 3, some (oCI 7 mX7_rounds 4)) :: (617, 1, some oPop) :: (618, 3, some (oGoto 1372)) :: (621, 1, some (oAl 1)) :: (622, 1, some (oAl 0)) ::
  (623, 2, some (oIl 4)) :: (625, 1, some (oIc 1)) :: (626, 1, some oIadd) :: (627, 1, some oSld) :: (628, 1, some (oAl 0)) :: (629, 2, some (oIl 4)) ::
  (631, 1, some (oIc 2)) :: (632, 1, some oIadd) :: (633, 1, some oSld) :: (634, 1, some (oAl 0)) :: (635, 2, some (oIl 4)) :: (637, 1, some (oIc 3)) ::
  (638, 1, some oIadd) :: (639, 1, some oSld) :: (640, 1, some (oAl 0)) :: (641, 2, some (oIl 4)) :: (643, 1, some (oIc 4)) :: (644, 1, some oIadd) ::
  (645, 1, some oSld) :: (646, 1, some (oAl 0)) :: (647, 2, some (oIl 4)) :: (649, 1, some (oIc 5)) :: (650, 1, some oIadd) :: (651, 1, some oSld) ::
  (652, 3, some (oCI 6 mX6_round 6)) :: (655, 1, some oPop) :: (656, 1, some (oAl 2)) :: (657, 1, some (oAl 0)) :: (658, 2, some (oIl 4)) :: (660, 1, some (oIc 1)) ::
  (661, 1, some oIadd) :: (662, 1, some oSld) :: (663, 1, some (oAl 0)) :: (664, 2, some (oIl 4)) :: (666, 1, some (oIc 2)) :: (667, 1, some oIadd) ::
  (668, 1, some oSld) :: (669, 1, some (oAl 0)) :: (670, 2, some (oIl 4)) :: (672, 1, some (oIc 3)) :: (673, 1, some oIadd) :: (674, 1, some oSld) ::
  (675, 1, some (oAl 0)) :: (676, 2, some (oIl 4)) :: (678, 1, some (oIc 4)) :: (679, 1, some oIadd) :: (680, 1, some oSld) :: (681, 1, some (oAl 0)) ::
  (682, 2, some (oIl 4)) :: (684, 1, some (oIc 5)) :: (685, 1, some oIadd) :: (686, 1, some oSld) :: (687, 3, some (oCI 7 mX7_round 6)) :: (690, 1, some oPop) ::
  (691, 3, some (oGoto 1372)) :: (694, 1, some (oAl 1)) :: (695, 1, some (oAl 0)) :: (696, 2, some (oIl 4)) :: (698, 1, some (oIc 1)) :: (699, 1, some oIadd) ::
  (700, 1, some oSld) :: (701, 1, some (oAl 0)) :: (702, 2, some (oIl 4)) :: (704, 1, some (oIc 2)) :: (705, 1, some oIadd) :: (706, 1, some oSld) ::
  (707, 1, some (oAl 0)) :: (708, 2, some (oIl 4)) :: (710, 1, some (oIc 3)) :: (711, 1, some oIadd) :: (712, 1, some oSld) :: (713, 1, some oI2l) ::
  (714, 2, some (oIc 32)) :: (716, 1, some oLshl) :: (717, 1, some (oAl 0)) :: (718, 2, some (oIl 4)) :: (720, 1, some (oIc 4)) :: (721, 1, some oIadd) ::
  (722, 1, some oSld) :: (723, 1, some oI2l) :: (724, 3, some (oJc 4294967295)) :: (727, 1, some oLand) :: (728, 1, some oLor) :: (729, 3, some (oCI 6 mX6_judge 4)) ::
  (732, 1, some oPop) :: (733, 1, some (oAl 2)) :: (734, 1, some (oAl 0)) :: (735, 2, some (oIl 4)) :: (737, 1, some (oIc 1)) :: (738, 1, some oIadd) ::
  (739, 1, some oSld) :: (740, 1, some (oAl 0)) :: (741, 2, some (oIl 4)) :: (743, 1, some (oIc 2)) :: (744, 1, some oIadd) :: (745, 1, some oSld) ::
  (746, 1, some (oAl 0)) :: (747, 2, some (oIl 4)) :: (749, 1, some (oIc 3)) :: (750, 1, some oIadd) :: (751, 1, some oSld) :: (752, 1, some oI2l) ::
  (753, 2, some (oIc 32)) :: (755, 1, some oLshl) :: (756, 1, some (oAl 0)) :: (757, 2, some (oIl 4)) :: (759, 1, some (oIc 4)) :: (760, 1, some oIadd) ::
  (761, 1, some oSld) :: (762, 1, some oI2l) :: (763, 3, some (oJc 4294967295)) :: (766, 1, some oLand) :: (767, 1, some oLor) :: (768, 3, some (oCI 7 mX7_judge 4)) ::
  (771, 1, some oPop) :: (772, 3, some (oGoto 1372)) :: (775, 1, some (oAl 1)) :: (776, 1, some (oAl 0)) :: (777, 2, some (oIl 4)) :: (779, 1, some (oIc 1)) ::
  (780, 1, some oIadd) :: (781, 1, some oSld) :: (782, 1, some (oAl 0)) :: (783, 2, some (oIl 4)) :: (785, 1, some (oIc 2)) :: (786, 1, some oIadd) ::
  (787, 1, some oSld) :: (788, 1, some (oAl 0)) :: (789, 2, some (oIl 4)) :: (791, 1, some (oIc 3)) :: (792, 1, some oIadd) :: (793, 1, some oSld) ::
  (794, 3, some (oCJ 6 mX6_takes 4)) :: (797, 1, some oPop2) :: (798, 1, some (oAl 2)) :: (799, 1, some (oAl 0)) :: (800, 2, some (oIl 4)) :: (802, 1, some (oIc 1)) ::
  (803, 1, some oIadd) :: (804, 1, some oSld) :: (805, 1, some (oAl 0)) :: (806, 2, some (oIl 4)) :: (808, 1, some (oIc 2)) :: (809, 1, some oIadd) ::
  (810, 1, some oSld) :: (811, 1, some (oAl 0)) :: (812, 2, some (oIl 4)) :: (814, 1, some (oIc 3)) :: (815, 1, some oIadd) :: (816, 1, some oSld) ::
  (817, 3, some (oCJ 7 mX7_takes 4)) :: (820, 1, some oPop2) :: (821, 3, some (oGoto 1372)) :: (824, 1, some (oAl 1)) :: (825, 1, some (oAl 0)) :: (826, 2, some (oIl 4)) ::
  (828, 1, some (oIc 1)) :: (829, 1, some oIadd) :: (830, 1, some oSld) :: (831, 1, some (oAl 0)) :: (832, 2, some (oIl 4)) :: (834, 1, some (oIc 2)) ::
  (835, 1, some oIadd) :: (836, 1, some oSld) :: (837, 3, some (oCI 6 mX6_flow 3)) :: (840, 1, some oPop) :: (841, 1, some (oAl 2)) :: (842, 1, some (oAl 0)) ::
  (843, 2, some (oIl 4)) :: (845, 1, some (oIc 1)) :: (846, 1, some oIadd) :: (847, 1, some oSld) :: (848, 1, some (oAl 0)) :: (849, 2, some (oIl 4)) ::
  (851, 1, some (oIc 2)) :: (852, 1, some oIadd) :: (853, 1, some oSld) :: (854, 3, some (oCI 7 mX7_flow 3)) :: (857, 1, some oPop) :: (858, 3, some (oGoto 1372)) ::
  (861, 1, some (oAl 1)) :: (862, 1, some (oAl 0)) :: (863, 2, some (oIl 4)) :: (865, 1, some (oIc 1)) :: (866, 1, some oIadd) :: (867, 1, some oSld) ::
  (868, 1, some (oAl 0)) :: (869, 2, some (oIl 4)) :: (871, 1, some (oIc 2)) :: (872, 1, some oIadd) :: (873, 1, some oSld) :: (874, 1, some (oAl 0)) ::
  (875, 2, some (oIl 4)) :: (877, 1, some (oIc 3)) :: (878, 1, some oIadd) :: (879, 1, some oSld) :: (880, 1, some (oAl 0)) :: (881, 2, some (oIl 4)) ::
  (883, 1, some (oIc 4)) :: (884, 1, some oIadd) :: (885, 1, some oSld) :: (886, 1, some (oAl 0)) :: (887, 2, some (oIl 4)) :: (889, 1, some (oIc 5)) ::
  (890, 1, some oIadd) :: (891, 1, some oSld) :: (892, 3, some (oCI 6 mX6_luck 6)) :: (895, 1, some oPop) :: (896, 1, some (oAl 2)) :: (897, 1, some (oAl 0)) ::
  (898, 2, some (oIl 4)) :: (900, 1, some (oIc 1)) :: (901, 1, some oIadd) :: (902, 1, some oSld) :: (903, 1, some (oAl 0)) :: (904, 2, some (oIl 4)) ::
  (906, 1, some (oIc 2)) :: (907, 1, some oIadd) :: (908, 1, some oSld) :: (909, 1, some (oAl 0)) :: (910, 2, some (oIl 4)) :: (912, 1, some (oIc 3)) ::
  (913, 1, some oIadd) :: (914, 1, some oSld) :: (915, 1, some (oAl 0)) :: (916, 2, some (oIl 4)) :: (918, 1, some (oIc 4)) :: (919, 1, some oIadd) ::
  (920, 1, some oSld) :: (921, 1, some (oAl 0)) :: (922, 2, some (oIl 4)) :: (924, 1, some (oIc 5)) :: (925, 1, some oIadd) :: (926, 1, some oSld) ::
  (927, 3, some (oCI 7 mX7_luck 6)) :: (930, 1, some oPop) :: (931, 3, some (oGoto 1372)) :: (934, 1, some (oAl 1)) :: (935, 1, some (oAl 0)) :: (936, 2, some (oIl 4)) ::
  (938, 1, some (oIc 1)) :: (939, 1, some oIadd) :: (940, 1, some oSld) :: (941, 1, some (oAl 0)) :: (942, 2, some (oIl 4)) :: (944, 1, some (oIc 2)) ::
  (945, 1, some oIadd) :: (946, 1, some oSld) :: (947, 1, some (oAl 0)) :: (948, 2, some (oIl 4)) :: (950, 1, some (oIc 3)) :: (951, 1, some oIadd) ::
  (952, 1, some oSld) :: (953, 1, some (oAl 0)) :: (954, 2, some (oIl 4)) :: (956, 1, some (oIc 4)) :: (957, 1, some oIadd) :: (958, 1, some oSld) ::
  (959, 3, some (oCI 6 mX6_signs 5)) :: (962, 1, some oPop) :: (963, 1, some (oAl 2)) :: (964, 1, some (oAl 0)) :: (965, 2, some (oIl 4)) :: (967, 1, some (oIc 1)) ::
  (968, 1, some oIadd) :: (969, 1, some oSld) :: (970, 1, some (oAl 0)) :: (971, 2, some (oIl 4)) :: (973, 1, some (oIc 2)) :: (974, 1, some oIadd) ::
  (975, 1, some oSld) :: (976, 1, some (oAl 0)) :: (977, 2, some (oIl 4)) :: (979, 1, some (oIc 3)) :: (980, 1, some oIadd) :: (981, 1, some oSld) ::
  (982, 1, some (oAl 0)) :: (983, 2, some (oIl 4)) :: (985, 1, some (oIc 4)) :: (986, 1, some oIadd) :: (987, 1, some oSld) :: (988, 3, some (oCI 7 mX7_signs 5)) ::
  (991, 1, some oPop) :: (992, 3, some (oGoto 1372)) :: (995, 1, some (oAl 1)) :: (996, 1, some (oAl 0)) :: (997, 2, some (oIl 4)) :: (999, 1, some (oIc 1)) ::
  (1000, 1, some oIadd) :: (1001, 1, some oSld) :: (1002, 1, some (oAl 0)) :: (1003, 2, some (oIl 4)) :: (1005, 1, some (oIc 2)) :: (1006, 1, some oIadd) ::
  (1007, 1, some oSld) :: (1008, 1, some (oAl 0)) :: (1009, 2, some (oIl 4)) :: (1011, 1, some (oIc 3)) :: (1012, 1, some oIadd) :: (1013, 1, some oSld) ::
  (1014, 1, some (oAl 0)) :: (1015, 2, some (oIl 4)) :: (1017, 1, some (oIc 4)) :: (1018, 1, some oIadd) :: (1019, 1, some oSld) :: (1020, 1, some (oAl 0)) ::
  (1021, 2, some (oIl 4)) :: (1023, 1, some (oIc 5)) :: (1024, 1, some oIadd) :: (1025, 1, some oSld) :: (1026, 3, some (oCI 6 mX6_knew 6)) :: (1029, 1, some oPop) ::
  (1030, 1, some (oAl 2)) :: (1031, 1, some (oAl 0)) :: (1032, 2, some (oIl 4)) :: (1034, 1, some (oIc 1)) :: (1035, 1, some oIadd) :: (1036, 1, some oSld) ::
  (1037, 1, some (oAl 0)) :: (1038, 2, some (oIl 4)) :: (1040, 1, some (oIc 2)) :: (1041, 1, some oIadd) :: (1042, 1, some oSld) :: (1043, 1, some (oAl 0)) ::
  (1044, 2, some (oIl 4)) :: (1046, 1, some (oIc 3)) :: (1047, 1, some oIadd) :: (1048, 1, some oSld) :: (1049, 1, some (oAl 0)) :: (1050, 2, some (oIl 4)) ::
  (1052, 1, some (oIc 4)) :: (1053, 1, some oIadd) :: (1054, 1, some oSld) :: (1055, 1, some (oAl 0)) :: (1056, 2, some (oIl 4)) :: (1058, 1, some (oIc 5)) ::
  (1059, 1, some oIadd) :: (1060, 1, some oSld) :: (1061, 3, some (oCI 7 mX7_knew 6)) :: (1064, 1, some oPop) :: (1065, 3, some (oGoto 1372)) :: (1068, 1, some (oAl 1)) ::
  (1069, 3, some (oCI 6 mX6_hands 1)) :: (1072, 1, some oPop) :: (1073, 1, some (oAl 2)) :: (1074, 3, some (oCI 7 mX7_hands 1)) :: (1077, 1, some oPop) :: (1078, 3, some (oGoto 1372)) ::
  (1081, 1, some (oAl 1)) :: (1082, 1, some (oAl 0)) :: (1083, 2, some (oIl 4)) :: (1085, 1, some (oIc 1)) :: (1086, 1, some oIadd) :: (1087, 1, some oSld) ::
  (1088, 3, some (oCI 6 mX6_lacking 2)) :: (1091, 1, some oPop) :: (1092, 1, some (oAl 2)) :: (1093, 1, some (oAl 0)) :: (1094, 2, some (oIl 4)) :: (1096, 1, some (oIc 1)) ::
  (1097, 1, some oIadd) :: (1098, 1, some oSld) :: (1099, 3, some (oCI 7 mX7_lacking 2)) :: (1102, 1, some oPop) :: (1103, 3, some (oGoto 1372)) :: (1106, 1, some (oAl 1)) ::
  (1107, 1, some (oAl 0)) :: (1108, 2, some (oIl 4)) :: (1110, 1, some (oIc 1)) :: (1111, 1, some oIadd) :: (1112, 1, some oSld) :: (1113, 3, some (oCI 6 mX6_stop 2)) ::
  (1116, 1, some oPop) :: (1117, 1, some (oAl 2)) :: (1118, 1, some (oAl 0)) :: (1119, 2, some (oIl 4)) :: (1121, 1, some (oIc 1)) :: (1122, 1, some oIadd) ::
  (1123, 1, some oSld) :: (1124, 3, some (oCI 7 mX7_stop 2)) :: (1127, 1, some oPop) :: (1128, 3, some (oGoto 1372)) :: (1131, 1, some (oAl 1)) :: (1132, 1, some (oAl 0)) ::
  (1133, 2, some (oIl 4)) :: (1135, 1, some (oIc 1)) :: (1136, 1, some oIadd) :: (1137, 1, some oSld) :: (1138, 1, some (oAl 0)) :: (1139, 2, some (oIl 4)) ::
  (1141, 1, some (oIc 2)) :: (1142, 1, some oIadd) :: (1143, 1, some oSld) :: (1144, 1, some (oAl 0)) :: (1145, 2, some (oIl 4)) :: (1147, 1, some (oIc 3)) ::
  (1148, 1, some oIadd) :: (1149, 1, some oSld) :: (1150, 1, some (oAl 0)) :: (1151, 2, some (oIl 4)) :: (1153, 1, some (oIc 4)) :: (1154, 1, some oIadd) ::
  (1155, 1, some oSld) :: (1156, 1, some oI2l) :: (1157, 2, some (oIc 32)) :: (1159, 1, some oLshl) :: (1160, 1, some (oAl 0)) :: (1161, 2, some (oIl 4)) ::
  (1163, 1, some (oIc 5)) :: (1164, 1, some oIadd) :: (1165, 1, some oSld) :: (1166, 1, some oI2l) :: (1167, 3, some (oJc 4294967295)) :: (1170, 1, some oLand) ::
  (1171, 1, some oLor) :: (1172, 3, some (oCI 6 mX6_fewest 5)) :: (1175, 1, some oPop) :: (1176, 1, some (oAl 2)) :: (1177, 1, some (oAl 0)) :: (1178, 2, some (oIl 4)) ::
  (1180, 1, some (oIc 1)) :: (1181, 1, some oIadd) :: (1182, 1, some oSld) :: (1183, 1, some (oAl 0)) :: (1184, 2, some (oIl 4)) :: (1186, 1, some (oIc 2)) ::
  (1187, 1, some oIadd) :: (1188, 1, some oSld) :: (1189, 1, some (oAl 0)) :: (1190, 2, some (oIl 4)) :: (1192, 1, some (oIc 3)) :: (1193, 1, some oIadd) ::
  (1194, 1, some oSld) :: (1195, 1, some (oAl 0)) :: (1196, 2, some (oIl 4)) :: (1198, 1, some (oIc 4)) :: (1199, 1, some oIadd) :: (1200, 1, some oSld) ::
  (1201, 1, some oI2l) :: (1202, 2, some (oIc 32)) :: (1204, 1, some oLshl) :: (1205, 1, some (oAl 0)) :: (1206, 2, some (oIl 4)) :: (1208, 1, some (oIc 5)) ::
  (1209, 1, some oIadd) :: (1210, 1, some oSld) :: (1211, 1, some oI2l) :: (1212, 3, some (oJc 4294967295)) :: (1215, 1, some oLand) :: (1216, 1, some oLor) ::
  (1217, 3, some (oCI 7 mX7_fewest 5)) :: (1220, 1, some oPop) :: (1221, 3, some (oGoto 1372)) :: (1224, 1, some (oAl 1)) :: (1225, 1, some (oAl 0)) :: (1226, 2, some (oIl 4)) ::
  (1228, 1, some (oIc 1)) :: (1229, 1, some oIadd) :: (1230, 1, some oSld) :: (1231, 3, some (oCI 6 mX6_rule 2)) :: (1234, 1, some oPop) :: (1235, 1, some (oAl 2)) ::
  (1236, 1, some (oAl 0)) :: (1237, 2, some (oIl 4)) :: (1239, 1, some (oIc 1)) :: (1240, 1, some oIadd) :: (1241, 1, some oSld) :: (1242, 3, some (oCI 7 mX7_rule 2)) ::
  (1245, 1, some oPop) :: (1246, 3, some (oGoto 1372)) :: (1249, 1, some (oAl 1)) :: (1250, 1, some (oAl 0)) :: (1251, 2, some (oIl 4)) :: (1253, 1, some (oIc 1)) ::
  (1254, 1, some oIadd) :: (1255, 1, some oSld) :: (1256, 3, some (oCI 6 mX6_burden 2)) :: (1259, 1, some oPop) :: (1260, 1, some (oAl 2)) :: (1261, 1, some (oAl 0)) ::
  (1262, 2, some (oIl 4)) :: (1264, 1, some (oIc 1)) :: (1265, 1, some oIadd) :: (1266, 1, some oSld) :: (1267, 3, some (oCI 7 mX7_burden 2)) :: (1270, 1, some oPop) ::
  (1271, 3, some (oGoto 1372)) :: (1274, 1, some (oAl 1)) :: (1275, 1, some (oAl 0)) :: (1276, 2, some (oIl 4)) :: (1278, 1, some (oIc 1)) :: (1279, 1, some oIadd) ::
  (1280, 1, some oSld) :: (1281, 1, some (oAl 0)) :: (1282, 2, some (oIl 4)) :: (1284, 1, some (oIc 2)) :: (1285, 1, some oIadd) :: (1286, 1, some oSld) ::
  (1287, 1, some (oAl 0)) :: (1288, 2, some (oIl 4)) :: (1290, 1, some (oIc 3)) :: (1291, 1, some oIadd) :: (1292, 1, some oSld) :: (1293, 1, some (oAl 0)) ::
  (1294, 2, some (oIl 4)) :: (1296, 1, some (oIc 4)) :: (1297, 1, some oIadd) :: (1298, 1, some oSld) :: (1299, 1, some (oAl 0)) :: (1300, 2, some (oIl 4)) ::
  (1302, 1, some (oIc 5)) :: (1303, 1, some oIadd) :: (1304, 1, some oSld) :: (1305, 3, some (oCJ 6 mX6_starve 6)) :: (1308, 1, some oPop2) :: (1309, 1, some (oAl 2)) ::
  (1310, 1, some (oAl 0)) :: (1311, 2, some (oIl 4)) :: (1313, 1, some (oIc 1)) :: (1314, 1, some oIadd) :: (1315, 1, some oSld) :: (1316, 1, some (oAl 0)) ::
  (1317, 2, some (oIl 4)) :: (1319, 1, some (oIc 2)) :: (1320, 1, some oIadd) :: (1321, 1, some oSld) :: (1322, 1, some (oAl 0)) :: (1323, 2, some (oIl 4)) ::
  (1325, 1, some (oIc 3)) :: (1326, 1, some oIadd) :: (1327, 1, some oSld) :: (1328, 1, some (oAl 0)) :: (1329, 2, some (oIl 4)) :: (1331, 1, some (oIc 4)) ::
  (1332, 1, some oIadd) :: (1333, 1, some oSld) :: (1334, 1, some (oAl 0)) :: (1335, 2, some (oIl 4)) :: (1337, 1, some (oIc 5)) :: (1338, 1, some oIadd) ::
  (1339, 1, some oSld) :: (1340, 3, some (oCJ 7 mX7_starve 6)) :: (1343, 1, some oPop2) :: (1344, 3, some (oGoto 1372)) :: (1347, 1, some (oAl 1)) :: (1348, 1, some (oAl 0)) ::
  (1349, 2, some (oIl 4)) :: (1351, 1, some (oIc 1)) :: (1352, 1, some oIadd) :: (1353, 1, some oSld) :: (1354, 3, some (oCI 6 mX6_count 2)) :: (1357, 1, some oPop) ::
  (1358, 1, some (oAl 2)) :: (1359, 1, some (oAl 0)) :: (1360, 2, some (oIl 4)) :: (1362, 1, some (oIc 1)) :: (1363, 1, some oIadd) :: (1364, 1, some oSld) ::
  (1365, 3, some (oCI 7 mX7_count 2)) :: (1368, 1, some oPop) :: (1369, 3, some (oGoto 1372)) :: (1372, 3, some (oInc 4 8)) :: (1375, 3, some (oGoto 23)) :: (1378, 1, some (oIc 1)) ::
  (1379, 1, some oZret) :: []
set_option maxRecDepth 100000 in
set_option maxHeartbeats 4000000 in
theorem okL_law : CodeOk mL_law cdL_law := by
  refine ⟨by rfl, ?_⟩
  show CodeAll mL_law cdL_law
  refine ce_op (okNo) ?_
  refine ce_op (okDup (by decide +kernel)) ?_
  refine ce_op (okNo) ?_
  refine ce_op (okAs1 (k := 1) (by decide +kernel) rfl (by decide)) ?_
  refine ce_op (okNo) ?_
  refine ce_op (okDup (by decide +kernel)) ?_
  refine ce_op (okNo) ?_
  refine ce_op (okAs1 (k := 2) (by decide +kernel) rfl (by decide)) ?_
  refine ce_op (okIc1 (n := 1) (by decide +kernel) (by decide)) ?_
  refine ce_op (okNo) ?_
  refine ce_op (okAs1 (k := 3) (by decide +kernel) rfl (by decide)) ?_
  refine ce_op (okIc1 (n := 0) (by decide +kernel) (by decide)) ?_
  refine ce_op (okIs2 (by decide +kernel) (by decide)) ?_
  refine ce_st ?_
  refine ce_op (okIl2 (by decide +kernel)) ?_
  refine ce_op (okAl1 (k := 0) (by decide +kernel) rfl) ?_
  refine ce_op (okSlen rfl (by decide +kernel)) ?_
  refine ce_op (okIc2 (n := 8) (by decide +kernel) (by decide)) ?_
  refine ce_op (okIsub (by decide +kernel)) ?_
  refine ce_op (okCmGt (off := 1348) (by decide +kernel) (by decide)) ?_
  refine ce_op (okAl1 (k := 0) (by decide +kernel) rfl) ?_
  refine ce_op (okIl2 (by decide +kernel)) ?_
  refine ce_op (okSld rfl (by decide +kernel)) ?_
  refine ce_op (okIc2 (n := 31) (by decide +kernel) (by decide)) ?_
  refine ce_op (okIand (by decide +kernel)) ?_
  refine ce_op (okTsw (dO := 1332) (lo := 0) (hi := 24) (offs := #[116, 189, 214, 239, 276, 344, 381, 482, 495, 532, 581, 654, 735, 784, 821, 894, 955, 1028, 1041, 1066, 1091, 1184, 1209, 1234, 1307]) (by decide +kernel) (by decide) (by decide +kernel) (by decide +kernel) (sw_all (by decide +kernel))) ?_
  refine ce_op (okAl1 (k := 1) (by decide +kernel) rfl) ?_
  refine ce_op (okAl1 (k := 0) (by decide +kernel) rfl) ?_
  refine ce_op (okIl2 (by decide +kernel)) ?_
  refine ce_op (okIc1 (n := 1) (by decide +kernel) (by decide)) ?_
  refine ce_op (okIadd (by decide +kernel)) ?_
  refine ce_op (okSld rfl (by decide +kernel)) ?_
  refine ce_op (okAl1 (k := 0) (by decide +kernel) rfl) ?_
  refine ce_op (okIl2 (by decide +kernel)) ?_
  refine ce_op (okIc1 (n := 2) (by decide +kernel) (by decide)) ?_
  refine ce_op (okIadd (by decide +kernel)) ?_
  refine ce_op (okSld rfl (by decide +kernel)) ?_
  refine ce_op (okAl1 (k := 0) (by decide +kernel) rfl) ?_
  refine ce_op (okIl2 (by decide +kernel)) ?_
  refine ce_op (okIc1 (n := 3) (by decide +kernel) (by decide)) ?_
  refine ce_op (okIadd (by decide +kernel)) ?_
  refine ce_op (okSld rfl (by decide +kernel)) ?_
  refine ce_op (okAl1 (k := 0) (by decide +kernel) rfl) ?_
  refine ce_op (okIl2 (by decide +kernel)) ?_
  refine ce_op (okIc1 (n := 4) (by decide +kernel) (by decide)) ?_
  refine ce_op (okIadd (by decide +kernel)) ?_
  refine ce_op (okSld rfl (by decide +kernel)) ?_
  refine ce_op (okAl1 (k := 0) (by decide +kernel) rfl) ?_
  refine ce_op (okIl2 (by decide +kernel)) ?_
  refine ce_op (okIc1 (n := 5) (by decide +kernel) (by decide)) ?_
  refine ce_op (okIadd (by decide +kernel)) ?_
  refine ce_op (okSld rfl (by decide +kernel)) ?_
  refine ce_op (okCI miX6_feed (rV clX6 (x := 21) miX6_feed rfl (by decide +kernel) wd435 wd436 wd437)) ?_
  refine ce_op (okPop (by decide +kernel)) ?_
  refine ce_op (okAl1 (k := 2) (by decide +kernel) rfl) ?_
  refine ce_op (okAl1 (k := 0) (by decide +kernel) rfl) ?_
  refine ce_op (okIl2 (by decide +kernel)) ?_
  refine ce_op (okIc1 (n := 1) (by decide +kernel) (by decide)) ?_
  refine ce_op (okIadd (by decide +kernel)) ?_
  refine ce_op (okSld rfl (by decide +kernel)) ?_
  refine ce_op (okAl1 (k := 0) (by decide +kernel) rfl) ?_
  refine ce_op (okIl2 (by decide +kernel)) ?_
  refine ce_op (okIc1 (n := 2) (by decide +kernel) (by decide)) ?_
  refine ce_op (okIadd (by decide +kernel)) ?_
  refine ce_op (okSld rfl (by decide +kernel)) ?_
  refine ce_op (okAl1 (k := 0) (by decide +kernel) rfl) ?_
  refine ce_op (okIl2 (by decide +kernel)) ?_
  refine ce_op (okIc1 (n := 3) (by decide +kernel) (by decide)) ?_
  refine ce_op (okIadd (by decide +kernel)) ?_
  refine ce_op (okSld rfl (by decide +kernel)) ?_
  refine ce_op (okAl1 (k := 0) (by decide +kernel) rfl) ?_
  refine ce_op (okIl2 (by decide +kernel)) ?_
  refine ce_op (okIc1 (n := 4) (by decide +kernel) (by decide)) ?_
  refine ce_op (okIadd (by decide +kernel)) ?_
  refine ce_op (okSld rfl (by decide +kernel)) ?_
  refine ce_op (okAl1 (k := 0) (by decide +kernel) rfl) ?_
  refine ce_op (okIl2 (by decide +kernel)) ?_
  refine ce_op (okIc1 (n := 5) (by decide +kernel) (by decide)) ?_
  refine ce_op (okIadd (by decide +kernel)) ?_
  refine ce_op (okSld rfl (by decide +kernel)) ?_
  refine ce_op (okCI miX7_feed (rV clX7 (x := 25) miX7_feed rfl (by decide +kernel) wd1173 wd1174 wd1175)) ?_
  refine ce_op (okPop (by decide +kernel)) ?_
  refine ce_op (okGoto (off := 1146) (by decide +kernel) (by decide)) ?_
  refine ce_op (okAl1 (k := 1) (by decide +kernel) rfl) ?_
  refine ce_op (okAl1 (k := 0) (by decide +kernel) rfl) ?_
  refine ce_op (okIl2 (by decide +kernel)) ?_
  refine ce_op (okIc1 (n := 1) (by decide +kernel) (by decide)) ?_
  refine ce_op (okIadd (by decide +kernel)) ?_
  refine ce_op (okSld rfl (by decide +kernel)) ?_
  refine ce_op (okCI miX6_book (rV clX6 (x := 26) miX6_book rfl (by decide +kernel) wd448 wd449 wd450)) ?_
  refine ce_op (okPop (by decide +kernel)) ?_
  refine ce_op (okAl1 (k := 2) (by decide +kernel) rfl) ?_
  refine ce_op (okAl1 (k := 0) (by decide +kernel) rfl) ?_
  refine ce_op (okIl2 (by decide +kernel)) ?_
  refine ce_op (okIc1 (n := 1) (by decide +kernel) (by decide)) ?_
  refine ce_op (okIadd (by decide +kernel)) ?_
  refine ce_op (okSld rfl (by decide +kernel)) ?_
  refine ce_op (okCI miX7_book (rV clX7 (x := 30) miX7_book rfl (by decide +kernel) wd1177 wd1178 wd1179)) ?_
  refine ce_op (okPop (by decide +kernel)) ?_
  refine ce_op (okGoto (off := 1121) (by decide +kernel) (by decide)) ?_
  refine ce_op (okAl1 (k := 1) (by decide +kernel) rfl) ?_
  refine ce_op (okAl1 (k := 0) (by decide +kernel) rfl) ?_
  refine ce_op (okIl2 (by decide +kernel)) ?_
  refine ce_op (okIc1 (n := 1) (by decide +kernel) (by decide)) ?_
  refine ce_op (okIadd (by decide +kernel)) ?_
  refine ce_op (okSld rfl (by decide +kernel)) ?_
  refine ce_op (okCI miX6_fault (rV clX6 (x := 31) miX6_fault rfl (by decide +kernel) wd586 wd587 wd588)) ?_
  refine ce_op (okPop (by decide +kernel)) ?_
  refine ce_op (okAl1 (k := 2) (by decide +kernel) rfl) ?_
  refine ce_op (okAl1 (k := 0) (by decide +kernel) rfl) ?_
  refine ce_op (okIl2 (by decide +kernel)) ?_
  refine ce_op (okIc1 (n := 1) (by decide +kernel) (by decide)) ?_
  refine ce_op (okIadd (by decide +kernel)) ?_
  refine ce_op (okSld rfl (by decide +kernel)) ?_
  refine ce_op (okCI miX7_fault (rV clX7 (x := 34) miX7_fault rfl (by decide +kernel) wd1300 wd1301 wd1302)) ?_
  refine ce_op (okPop (by decide +kernel)) ?_
  refine ce_op (okGoto (off := 1096) (by decide +kernel) (by decide)) ?_
  refine ce_op (okAl1 (k := 1) (by decide +kernel) rfl) ?_
  refine ce_op (okAl1 (k := 0) (by decide +kernel) rfl) ?_
  refine ce_op (okIl2 (by decide +kernel)) ?_
  refine ce_op (okIc1 (n := 1) (by decide +kernel) (by decide)) ?_
  refine ce_op (okIadd (by decide +kernel)) ?_
  refine ce_op (okSld rfl (by decide +kernel)) ?_
  refine ce_op (okAl1 (k := 0) (by decide +kernel) rfl) ?_
  refine ce_op (okIl2 (by decide +kernel)) ?_
  refine ce_op (okIc1 (n := 2) (by decide +kernel) (by decide)) ?_
  refine ce_op (okIadd (by decide +kernel)) ?_
  refine ce_op (okSld rfl (by decide +kernel)) ?_
  refine ce_op (okCI miX6_named (rV clX6 (x := 35) miX6_named rfl (by decide +kernel) wd590 wd591 wd592)) ?_
  refine ce_op (okPop (by decide +kernel)) ?_
  refine ce_op (okAl1 (k := 2) (by decide +kernel) rfl) ?_
  refine ce_op (okAl1 (k := 0) (by decide +kernel) rfl) ?_
  refine ce_op (okIl2 (by decide +kernel)) ?_
  refine ce_op (okIc1 (n := 1) (by decide +kernel) (by decide)) ?_
  refine ce_op (okIadd (by decide +kernel)) ?_
  refine ce_op (okSld rfl (by decide +kernel)) ?_
  refine ce_op (okAl1 (k := 0) (by decide +kernel) rfl) ?_
  refine ce_op (okIl2 (by decide +kernel)) ?_
  refine ce_op (okIc1 (n := 2) (by decide +kernel) (by decide)) ?_
  refine ce_op (okIadd (by decide +kernel)) ?_
  refine ce_op (okSld rfl (by decide +kernel)) ?_
  refine ce_op (okCI miX7_named (rV clX7 (x := 38) miX7_named rfl (by decide +kernel) wd1304 wd1305 wd1306)) ?_
  refine ce_op (okPop (by decide +kernel)) ?_
  refine ce_op (okGoto (off := 1059) (by decide +kernel) (by decide)) ?_
  refine ce_op (okAl1 (k := 1) (by decide +kernel) rfl) ?_
  refine ce_op (okAl1 (k := 0) (by decide +kernel) rfl) ?_
  refine ce_op (okIl2 (by decide +kernel)) ?_
  refine ce_op (okIc1 (n := 1) (by decide +kernel) (by decide)) ?_
  refine ce_op (okIadd (by decide +kernel)) ?_
  refine ce_op (okSld rfl (by decide +kernel)) ?_
  refine ce_op (okAl1 (k := 0) (by decide +kernel) rfl) ?_
  refine ce_op (okIl2 (by decide +kernel)) ?_
  refine ce_op (okIc1 (n := 2) (by decide +kernel) (by decide)) ?_
  refine ce_op (okIadd (by decide +kernel)) ?_
  refine ce_op (okSld rfl (by decide +kernel)) ?_
  refine ce_op (okAl1 (k := 3) (by decide +kernel) rfl) ?_
  refine ce_st ?_
  refine ce_op (okNo) ?_
  refine ce_op (okIs2 (by decide +kernel) (by decide)) ?_
  refine ce_op (okAl1 (k := 2) (by decide +kernel) rfl) ?_
  refine ce_op (okAl1 (k := 0) (by decide +kernel) rfl) ?_
  refine ce_op (okIl2 (by decide +kernel)) ?_
  refine ce_op (okIc1 (n := 1) (by decide +kernel) (by decide)) ?_
  refine ce_op (okIadd (by decide +kernel)) ?_
  refine ce_op (okSld rfl (by decide +kernel)) ?_
  refine ce_op (okAl1 (k := 0) (by decide +kernel) rfl) ?_
  refine ce_op (okIl2 (by decide +kernel)) ?_
  refine ce_op (okIc1 (n := 2) (by decide +kernel) (by decide)) ?_
  refine ce_op (okIadd (by decide +kernel)) ?_
  refine ce_op (okSld rfl (by decide +kernel)) ?_
  refine ce_op (okCI miX7_look (rV clX7 (x := 44) miX7_look rfl (by decide +kernel) wd1308 wd1309 wd1310)) ?_
  refine ce_op (okIs2 (by decide +kernel) (by decide)) ?_
  refine ce_op (okAl1 (k := 2) (by decide +kernel) rfl) ?_
  refine ce_op (okCI miX7_thrown (rV clX7 (x := 45) miX7_thrown rfl (by decide +kernel) wd1169 wd1170 wd1171)) ?_
  refine ce_op (okIl2 (by decide +kernel)) ?_
  refine ce_op (okCmEq (off := 5) (by decide +kernel) (by decide)) ?_
  refine ce_op (okIc1 (n := 0) (by decide +kernel) (by decide)) ?_
  refine ce_op (okZret (by decide +kernel) rfl) ?_
  refine ce_op (okIl2 (by decide +kernel)) ?_
  refine ce_op (okIfNe (off := 15) (by decide +kernel) (by decide)) ?_
  refine ce_op (okAl1 (k := 3) (by decide +kernel) rfl) ?_
  refine ce_op (okIc1 (n := 0) (by decide +kernel) (by decide)) ?_
  refine ce_op (okJald (by decide +kernel)) ?_
  refine ce_op (okIl2 (by decide +kernel)) ?_
  refine ce_op (okI2l (by decide +kernel)) ?_
  refine ce_op (okLcmp (by decide +kernel)) ?_
  refine ce_op (okIfEq (off := 5) (by decide +kernel) (by decide)) ?_
  refine ce_op (okIc1 (n := 0) (by decide +kernel) (by decide)) ?_
  refine ce_op (okZret (by decide +kernel) rfl) ?_
  refine ce_op (okGoto (off := 991) (by decide +kernel) (by decide)) ?_
  refine ce_op (okAl1 (k := 1) (by decide +kernel) rfl) ?_
  refine ce_op (okAl1 (k := 0) (by decide +kernel) rfl) ?_
  refine ce_op (okIl2 (by decide +kernel)) ?_
  refine ce_op (okIc1 (n := 1) (by decide +kernel) (by decide)) ?_
  refine ce_op (okIadd (by decide +kernel)) ?_
  refine ce_op (okSld rfl (by decide +kernel)) ?_
  refine ce_op (okAl1 (k := 0) (by decide +kernel) rfl) ?_
  refine ce_op (okIl2 (by decide +kernel)) ?_
  refine ce_op (okIc1 (n := 2) (by decide +kernel) (by decide)) ?_
  refine ce_op (okIadd (by decide +kernel)) ?_
  refine ce_op (okSld rfl (by decide +kernel)) ?_
  refine ce_op (okCI miX6_firm (rV clX6 (x := 49) miX6_firm rfl (by decide +kernel) wd595 wd596 wd597)) ?_
  refine ce_op (okPop (by decide +kernel)) ?_
  refine ce_op (okAl1 (k := 2) (by decide +kernel) rfl) ?_
  refine ce_op (okAl1 (k := 0) (by decide +kernel) rfl) ?_
  refine ce_op (okIl2 (by decide +kernel)) ?_
  refine ce_op (okIc1 (n := 1) (by decide +kernel) (by decide)) ?_
  refine ce_op (okIadd (by decide +kernel)) ?_
  refine ce_op (okSld rfl (by decide +kernel)) ?_
  refine ce_op (okAl1 (k := 0) (by decide +kernel) rfl) ?_
  refine ce_op (okIl2 (by decide +kernel)) ?_
  refine ce_op (okIc1 (n := 2) (by decide +kernel) (by decide)) ?_
  refine ce_op (okIadd (by decide +kernel)) ?_
  refine ce_op (okSld rfl (by decide +kernel)) ?_
  refine ce_op (okCI miX7_firm (rV clX7 (x := 52) miX7_firm rfl (by decide +kernel) wd1324 wd1325 wd1326)) ?_
  refine ce_op (okPop (by decide +kernel)) ?_
  refine ce_op (okGoto (off := 954) (by decide +kernel) (by decide)) ?_
  refine ce_op (okAl1 (k := 1) (by decide +kernel) rfl) ?_
  refine ce_op (okAl1 (k := 0) (by decide +kernel) rfl) ?_
  refine ce_op (okIl2 (by decide +kernel)) ?_
  refine ce_op (okIc1 (n := 1) (by decide +kernel) (by decide)) ?_
  refine ce_op (okIadd (by decide +kernel)) ?_
  refine ce_op (okSld rfl (by decide +kernel)) ?_
  refine ce_op (okAl1 (k := 0) (by decide +kernel) rfl) ?_
  refine ce_op (okIl2 (by decide +kernel)) ?_
  refine ce_op (okIc1 (n := 2) (by decide +kernel) (by decide)) ?_
  refine ce_op (okIadd (by decide +kernel)) ?_
  refine ce_op (okSld rfl (by decide +kernel)) ?_
  refine ce_op (okAl1 (k := 0) (by decide +kernel) rfl) ?_
  refine ce_op (okIl2 (by decide +kernel)) ?_
  refine ce_op (okIc1 (n := 3) (by decide +kernel) (by decide)) ?_
  refine ce_op (okIadd (by decide +kernel)) ?_
  refine ce_op (okSld rfl (by decide +kernel)) ?_
  refine ce_op (okAl1 (k := 0) (by decide +kernel) rfl) ?_
  refine ce_op (okIl2 (by decide +kernel)) ?_
  refine ce_op (okIc1 (n := 4) (by decide +kernel) (by decide)) ?_
  refine ce_op (okIadd (by decide +kernel)) ?_
  refine ce_op (okSld rfl (by decide +kernel)) ?_
  refine ce_op (okAl1 (k := 0) (by decide +kernel) rfl) ?_
  refine ce_op (okIl2 (by decide +kernel)) ?_
  refine ce_op (okIc1 (n := 5) (by decide +kernel) (by decide)) ?_
  refine ce_op (okIadd (by decide +kernel)) ?_
  refine ce_op (okSld rfl (by decide +kernel)) ?_
  refine ce_op (okAl1 (k := 0) (by decide +kernel) rfl) ?_
  refine ce_op (okIl2 (by decide +kernel)) ?_
  refine ce_op (okIc2 (n := 6) (by decide +kernel) (by decide)) ?_
  refine ce_op (okIadd (by decide +kernel)) ?_
  refine ce_op (okSld rfl (by decide +kernel)) ?_
  refine ce_op (okAl1 (k := 0) (by decide +kernel) rfl) ?_
  refine ce_op (okIl2 (by decide +kernel)) ?_
  refine ce_op (okIc2 (n := 7) (by decide +kernel) (by decide)) ?_
  refine ce_op (okIadd (by decide +kernel)) ?_
  refine ce_op (okSld rfl (by decide +kernel)) ?_
  refine ce_op (okCI miX6_sell (rV clX6 (x := 53) miX6_sell rfl (by decide +kernel) wd624 wd625 wd626)) ?_
  refine ce_op (okPop (by decide +kernel)) ?_
  refine ce_op (okAl1 (k := 2) (by decide +kernel) rfl) ?_
  refine ce_op (okAl1 (k := 0) (by decide +kernel) rfl) ?_
  refine ce_op (okIl2 (by decide +kernel)) ?_
  refine ce_op (okIc1 (n := 1) (by decide +kernel) (by decide)) ?_
  refine ce_op (okIadd (by decide +kernel)) ?_
  refine ce_op (okSld rfl (by decide +kernel)) ?_
  refine ce_op (okAl1 (k := 0) (by decide +kernel) rfl) ?_
  refine ce_op (okIl2 (by decide +kernel)) ?_
  refine ce_op (okIc1 (n := 2) (by decide +kernel) (by decide)) ?_
  refine ce_op (okIadd (by decide +kernel)) ?_
  refine ce_op (okSld rfl (by decide +kernel)) ?_
  refine ce_op (okAl1 (k := 0) (by decide +kernel) rfl) ?_
  refine ce_op (okIl2 (by decide +kernel)) ?_
  refine ce_op (okIc1 (n := 3) (by decide +kernel) (by decide)) ?_
  refine ce_op (okIadd (by decide +kernel)) ?_
  refine ce_op (okSld rfl (by decide +kernel)) ?_
  refine ce_op (okAl1 (k := 0) (by decide +kernel) rfl) ?_
  refine ce_op (okIl2 (by decide +kernel)) ?_
  refine ce_op (okIc1 (n := 4) (by decide +kernel) (by decide)) ?_
  refine ce_op (okIadd (by decide +kernel)) ?_
  refine ce_op (okSld rfl (by decide +kernel)) ?_
  refine ce_op (okAl1 (k := 0) (by decide +kernel) rfl) ?_
  refine ce_op (okIl2 (by decide +kernel)) ?_
  refine ce_op (okIc1 (n := 5) (by decide +kernel) (by decide)) ?_
  refine ce_op (okIadd (by decide +kernel)) ?_
  refine ce_op (okSld rfl (by decide +kernel)) ?_
  refine ce_op (okAl1 (k := 0) (by decide +kernel) rfl) ?_
  refine ce_op (okIl2 (by decide +kernel)) ?_
  refine ce_op (okIc2 (n := 6) (by decide +kernel) (by decide)) ?_
  refine ce_op (okIadd (by decide +kernel)) ?_
  refine ce_op (okSld rfl (by decide +kernel)) ?_
  refine ce_op (okAl1 (k := 0) (by decide +kernel) rfl) ?_
  refine ce_op (okIl2 (by decide +kernel)) ?_
  refine ce_op (okIc2 (n := 7) (by decide +kernel) (by decide)) ?_
  refine ce_op (okIadd (by decide +kernel)) ?_
  refine ce_op (okSld rfl (by decide +kernel)) ?_
  refine ce_op (okCI miX7_sell (rV clX7 (x := 57) miX7_sell rfl (by decide +kernel) wd1346 wd1347 wd1348)) ?_
  refine ce_op (okPop (by decide +kernel)) ?_
  refine ce_op (okGoto (off := 853) (by decide +kernel) (by decide)) ?_
  refine ce_op (okAl1 (k := 1) (by decide +kernel) rfl) ?_
  refine ce_op (okCI miX6_undo (rV clX6 (x := 58) miX6_undo rfl (by decide +kernel) wd631 wd632 wd633)) ?_
  refine ce_op (okPop (by decide +kernel)) ?_
  refine ce_op (okAl1 (k := 2) (by decide +kernel) rfl) ?_
  refine ce_op (okCI miX7_undo (rV clX7 (x := 61) miX7_undo rfl (by decide +kernel) wd1350 wd1351 wd1352)) ?_
  refine ce_op (okPop (by decide +kernel)) ?_
  refine ce_op (okGoto (off := 840) (by decide +kernel) (by decide)) ?_
  refine ce_op (okAl1 (k := 1) (by decide +kernel) rfl) ?_
  refine ce_op (okAl1 (k := 0) (by decide +kernel) rfl) ?_
  refine ce_op (okIl2 (by decide +kernel)) ?_
  refine ce_op (okIc1 (n := 1) (by decide +kernel) (by decide)) ?_
  refine ce_op (okIadd (by decide +kernel)) ?_
  refine ce_op (okSld rfl (by decide +kernel)) ?_
  refine ce_op (okAl1 (k := 0) (by decide +kernel) rfl) ?_
  refine ce_op (okIl2 (by decide +kernel)) ?_
  refine ce_op (okIc1 (n := 2) (by decide +kernel) (by decide)) ?_
  refine ce_op (okIadd (by decide +kernel)) ?_
  refine ce_op (okSld rfl (by decide +kernel)) ?_
  refine ce_op (okCI miX6_pay (rV clX6 (x := 62) miX6_pay rfl (by decide +kernel) wd635 wd636 wd637)) ?_
  refine ce_op (okPop (by decide +kernel)) ?_
  refine ce_op (okAl1 (k := 2) (by decide +kernel) rfl) ?_
  refine ce_op (okAl1 (k := 0) (by decide +kernel) rfl) ?_
  refine ce_op (okIl2 (by decide +kernel)) ?_
  refine ce_op (okIc1 (n := 1) (by decide +kernel) (by decide)) ?_
  refine ce_op (okIadd (by decide +kernel)) ?_
  refine ce_op (okSld rfl (by decide +kernel)) ?_
  refine ce_op (okAl1 (k := 0) (by decide +kernel) rfl) ?_
  refine ce_op (okIl2 (by decide +kernel)) ?_
  refine ce_op (okIc1 (n := 2) (by decide +kernel) (by decide)) ?_
  refine ce_op (okIadd (by decide +kernel)) ?_
  refine ce_op (okSld rfl (by decide +kernel)) ?_
  refine ce_op (okCI miX7_pay (rV clX7 (x := 65) miX7_pay rfl (by decide +kernel) wd1354 wd1355 wd1356)) ?_
  refine ce_op (okPop (by decide +kernel)) ?_
  refine ce_op (okGoto (off := 803) (by decide +kernel) (by decide)) ?_
  refine ce_op (okAl1 (k := 1) (by decide +kernel) rfl) ?_
  refine ce_op (okAl1 (k := 0) (by decide +kernel) rfl) ?_
  refine ce_op (okIl2 (by decide +kernel)) ?_
  refine ce_op (okIc1 (n := 1) (by decide +kernel) (by decide)) ?_
  refine ce_op (okIadd (by decide +kernel)) ?_
  refine ce_op (okSld rfl (by decide +kernel)) ?_
  refine ce_op (okAl1 (k := 0) (by decide +kernel) rfl) ?_
  refine ce_op (okIl2 (by decide +kernel)) ?_
  refine ce_op (okIc1 (n := 2) (by decide +kernel) (by decide)) ?_
  refine ce_op (okIadd (by decide +kernel)) ?_
  refine ce_op (okSld rfl (by decide +kernel)) ?_
  refine ce_op (okAl1 (k := 0) (by decide +kernel) rfl) ?_
  refine ce_op (okIl2 (by decide +kernel)) ?_
  refine ce_op (okIc1 (n := 3) (by decide +kernel) (by decide)) ?_
  refine ce_op (okIadd (by decide +kernel)) ?_
  refine ce_op (okSld rfl (by decide +kernel)) ?_
  refine ce_op (okCI miX6_rounds (rV clX6 (x := 66) miX6_rounds rfl (by decide +kernel) wd640 wd641 wd642)) ?_
  refine ce_op (okPop (by decide +kernel)) ?_
  refine ce_op (okAl1 (k := 2) (by decide +kernel) rfl) ?_
  refine ce_op (okAl1 (k := 0) (by decide +kernel) rfl) ?_
  refine ce_op (okIl2 (by decide +kernel)) ?_
  refine ce_op (okIc1 (n := 1) (by decide +kernel) (by decide)) ?_
  refine ce_op (okIadd (by decide +kernel)) ?_
  refine ce_op (okSld rfl (by decide +kernel)) ?_
  refine ce_op (okAl1 (k := 0) (by decide +kernel) rfl) ?_
  refine ce_op (okIl2 (by decide +kernel)) ?_
  refine ce_op (okIc1 (n := 2) (by decide +kernel) (by decide)) ?_
  refine ce_op (okIadd (by decide +kernel)) ?_
  refine ce_op (okSld rfl (by decide +kernel)) ?_
  refine ce_op (okAl1 (k := 0) (by decide +kernel) rfl) ?_
  refine ce_op (okIl2 (by decide +kernel)) ?_
  refine ce_op (okIc1 (n := 3) (by decide +kernel) (by decide)) ?_
  refine ce_op (okIadd (by decide +kernel)) ?_
  refine ce_op (okSld rfl (by decide +kernel)) ?_
  refine ce_op (okCI miX7_rounds (rV clX7 (x := 70) miX7_rounds rfl (by decide +kernel) wd1358 wd1359 wd1360)) ?_
  refine ce_op (okPop (by decide +kernel)) ?_
  refine ce_op (okGoto (off := 754) (by decide +kernel) (by decide)) ?_
  refine ce_op (okAl1 (k := 1) (by decide +kernel) rfl) ?_
  refine ce_op (okAl1 (k := 0) (by decide +kernel) rfl) ?_
  refine ce_op (okIl2 (by decide +kernel)) ?_
  refine ce_op (okIc1 (n := 1) (by decide +kernel) (by decide)) ?_
  refine ce_op (okIadd (by decide +kernel)) ?_
  refine ce_op (okSld rfl (by decide +kernel)) ?_
  refine ce_op (okAl1 (k := 0) (by decide +kernel) rfl) ?_
  refine ce_op (okIl2 (by decide +kernel)) ?_
  refine ce_op (okIc1 (n := 2) (by decide +kernel) (by decide)) ?_
  refine ce_op (okIadd (by decide +kernel)) ?_
  refine ce_op (okSld rfl (by decide +kernel)) ?_
  refine ce_op (okAl1 (k := 0) (by decide +kernel) rfl) ?_
  refine ce_op (okIl2 (by decide +kernel)) ?_
  refine ce_op (okIc1 (n := 3) (by decide +kernel) (by decide)) ?_
  refine ce_op (okIadd (by decide +kernel)) ?_
  refine ce_op (okSld rfl (by decide +kernel)) ?_
  refine ce_op (okAl1 (k := 0) (by decide +kernel) rfl) ?_
  refine ce_op (okIl2 (by decide +kernel)) ?_
  refine ce_op (okIc1 (n := 4) (by decide +kernel) (by decide)) ?_
  refine ce_op (okIadd (by decide +kernel)) ?_
  refine ce_op (okSld rfl (by decide +kernel)) ?_
  refine ce_op (okAl1 (k := 0) (by decide +kernel) rfl) ?_
  refine ce_op (okIl2 (by decide +kernel)) ?_
  refine ce_op (okIc1 (n := 5) (by decide +kernel) (by decide)) ?_
  refine ce_op (okIadd (by decide +kernel)) ?_
  refine ce_op (okSld rfl (by decide +kernel)) ?_
  refine ce_op (okCI miX6_round (rV clX6 (x := 71) miX6_round rfl (by decide +kernel) wd676 wd677 wd678)) ?_
  refine ce_op (okPop (by decide +kernel)) ?_
  refine ce_op (okAl1 (k := 2) (by decide +kernel) rfl) ?_
  refine ce_op (okAl1 (k := 0) (by decide +kernel) rfl) ?_
  refine ce_op (okIl2 (by decide +kernel)) ?_
  refine ce_op (okIc1 (n := 1) (by decide +kernel) (by decide)) ?_
  refine ce_op (okIadd (by decide +kernel)) ?_
  refine ce_op (okSld rfl (by decide +kernel)) ?_
  refine ce_op (okAl1 (k := 0) (by decide +kernel) rfl) ?_
  refine ce_op (okIl2 (by decide +kernel)) ?_
  refine ce_op (okIc1 (n := 2) (by decide +kernel) (by decide)) ?_
  refine ce_op (okIadd (by decide +kernel)) ?_
  refine ce_op (okSld rfl (by decide +kernel)) ?_
  refine ce_op (okAl1 (k := 0) (by decide +kernel) rfl) ?_
  refine ce_op (okIl2 (by decide +kernel)) ?_
  refine ce_op (okIc1 (n := 3) (by decide +kernel) (by decide)) ?_
  refine ce_op (okIadd (by decide +kernel)) ?_
  refine ce_op (okSld rfl (by decide +kernel)) ?_
  refine ce_op (okAl1 (k := 0) (by decide +kernel) rfl) ?_
  refine ce_op (okIl2 (by decide +kernel)) ?_
  refine ce_op (okIc1 (n := 4) (by decide +kernel) (by decide)) ?_
  refine ce_op (okIadd (by decide +kernel)) ?_
  refine ce_op (okSld rfl (by decide +kernel)) ?_
  refine ce_op (okAl1 (k := 0) (by decide +kernel) rfl) ?_
  refine ce_op (okIl2 (by decide +kernel)) ?_
  refine ce_op (okIc1 (n := 5) (by decide +kernel) (by decide)) ?_
  refine ce_op (okIadd (by decide +kernel)) ?_
  refine ce_op (okSld rfl (by decide +kernel)) ?_
  refine ce_op (okCI miX7_round (rV clX7 (x := 74) miX7_round rfl (by decide +kernel) wd1385 wd1386 wd1387)) ?_
  refine ce_op (okPop (by decide +kernel)) ?_
  refine ce_op (okGoto (off := 681) (by decide +kernel) (by decide)) ?_
  refine ce_op (okAl1 (k := 1) (by decide +kernel) rfl) ?_
  refine ce_op (okAl1 (k := 0) (by decide +kernel) rfl) ?_
  refine ce_op (okIl2 (by decide +kernel)) ?_
  refine ce_op (okIc1 (n := 1) (by decide +kernel) (by decide)) ?_
  refine ce_op (okIadd (by decide +kernel)) ?_
  refine ce_op (okSld rfl (by decide +kernel)) ?_
  refine ce_op (okAl1 (k := 0) (by decide +kernel) rfl) ?_
  refine ce_op (okIl2 (by decide +kernel)) ?_
  refine ce_op (okIc1 (n := 2) (by decide +kernel) (by decide)) ?_
  refine ce_op (okIadd (by decide +kernel)) ?_
  refine ce_op (okSld rfl (by decide +kernel)) ?_
  refine ce_op (okAl1 (k := 0) (by decide +kernel) rfl) ?_
  refine ce_op (okIl2 (by decide +kernel)) ?_
  refine ce_op (okIc1 (n := 3) (by decide +kernel) (by decide)) ?_
  refine ce_op (okIadd (by decide +kernel)) ?_
  refine ce_op (okSld rfl (by decide +kernel)) ?_
  refine ce_op (okI2l (by decide +kernel)) ?_
  refine ce_op (okIc2 (n := 32) (by decide +kernel) (by decide)) ?_
  refine ce_op (okLshl (by decide +kernel)) ?_
  refine ce_op (okAl1 (k := 0) (by decide +kernel) rfl) ?_
  refine ce_op (okIl2 (by decide +kernel)) ?_
  refine ce_op (okIc1 (n := 4) (by decide +kernel) (by decide)) ?_
  refine ce_op (okIadd (by decide +kernel)) ?_
  refine ce_op (okSld rfl (by decide +kernel)) ?_
  refine ce_op (okI2l (by decide +kernel)) ?_
  refine ce_op (okJcL (k := 75) (by decide +kernel) wd1514) ?_
  refine ce_op (okLand (by decide +kernel)) ?_
  refine ce_op (okLor (by decide +kernel)) ?_
  refine ce_op (okCI miX6_judge (rV clX6 (x := 77) miX6_judge rfl (by decide +kernel) wd698 wd699 wd700)) ?_
  refine ce_op (okPop (by decide +kernel)) ?_
  refine ce_op (okAl1 (k := 2) (by decide +kernel) rfl) ?_
  refine ce_op (okAl1 (k := 0) (by decide +kernel) rfl) ?_
  refine ce_op (okIl2 (by decide +kernel)) ?_
  refine ce_op (okIc1 (n := 1) (by decide +kernel) (by decide)) ?_
  refine ce_op (okIadd (by decide +kernel)) ?_
  refine ce_op (okSld rfl (by decide +kernel)) ?_
  refine ce_op (okAl1 (k := 0) (by decide +kernel) rfl) ?_
  refine ce_op (okIl2 (by decide +kernel)) ?_
  refine ce_op (okIc1 (n := 2) (by decide +kernel) (by decide)) ?_
  refine ce_op (okIadd (by decide +kernel)) ?_
  refine ce_op (okSld rfl (by decide +kernel)) ?_
  refine ce_op (okAl1 (k := 0) (by decide +kernel) rfl) ?_
  refine ce_op (okIl2 (by decide +kernel)) ?_
  refine ce_op (okIc1 (n := 3) (by decide +kernel) (by decide)) ?_
  refine ce_op (okIadd (by decide +kernel)) ?_
  refine ce_op (okSld rfl (by decide +kernel)) ?_
  refine ce_op (okI2l (by decide +kernel)) ?_
  refine ce_op (okIc2 (n := 32) (by decide +kernel) (by decide)) ?_
  refine ce_op (okLshl (by decide +kernel)) ?_
  refine ce_op (okAl1 (k := 0) (by decide +kernel) rfl) ?_
  refine ce_op (okIl2 (by decide +kernel)) ?_
  refine ce_op (okIc1 (n := 4) (by decide +kernel) (by decide)) ?_
  refine ce_op (okIadd (by decide +kernel)) ?_
  refine ce_op (okSld rfl (by decide +kernel)) ?_
  refine ce_op (okI2l (by decide +kernel)) ?_
  refine ce_op (okJcL (k := 75) (by decide +kernel) wd1514) ?_
  refine ce_op (okLand (by decide +kernel)) ?_
  refine ce_op (okLor (by decide +kernel)) ?_
  refine ce_op (okCI miX7_judge (rV clX7 (x := 81) miX7_judge rfl (by decide +kernel) wd1402 wd1403 wd1404)) ?_
  refine ce_op (okPop (by decide +kernel)) ?_
  refine ce_op (okGoto (off := 600) (by decide +kernel) (by decide)) ?_
  refine ce_op (okAl1 (k := 1) (by decide +kernel) rfl) ?_
  refine ce_op (okAl1 (k := 0) (by decide +kernel) rfl) ?_
  refine ce_op (okIl2 (by decide +kernel)) ?_
  refine ce_op (okIc1 (n := 1) (by decide +kernel) (by decide)) ?_
  refine ce_op (okIadd (by decide +kernel)) ?_
  refine ce_op (okSld rfl (by decide +kernel)) ?_
  refine ce_op (okAl1 (k := 0) (by decide +kernel) rfl) ?_
  refine ce_op (okIl2 (by decide +kernel)) ?_
  refine ce_op (okIc1 (n := 2) (by decide +kernel) (by decide)) ?_
  refine ce_op (okIadd (by decide +kernel)) ?_
  refine ce_op (okSld rfl (by decide +kernel)) ?_
  refine ce_op (okAl1 (k := 0) (by decide +kernel) rfl) ?_
  refine ce_op (okIl2 (by decide +kernel)) ?_
  refine ce_op (okIc1 (n := 3) (by decide +kernel) (by decide)) ?_
  refine ce_op (okIadd (by decide +kernel)) ?_
  refine ce_op (okSld rfl (by decide +kernel)) ?_
  refine ce_op (okCJ miX6_takes (rV clX6 (x := 82) miX6_takes rfl (by decide +kernel) wd715 wd716 wd717)) ?_
  refine ce_op (okPop2 (by decide +kernel)) ?_
  refine ce_op (okAl1 (k := 2) (by decide +kernel) rfl) ?_
  refine ce_op (okAl1 (k := 0) (by decide +kernel) rfl) ?_
  refine ce_op (okIl2 (by decide +kernel)) ?_
  refine ce_op (okIc1 (n := 1) (by decide +kernel) (by decide)) ?_
  refine ce_op (okIadd (by decide +kernel)) ?_
  refine ce_op (okSld rfl (by decide +kernel)) ?_
  refine ce_op (okAl1 (k := 0) (by decide +kernel) rfl) ?_
  refine ce_op (okIl2 (by decide +kernel)) ?_
  refine ce_op (okIc1 (n := 2) (by decide +kernel) (by decide)) ?_
  refine ce_op (okIadd (by decide +kernel)) ?_
  refine ce_op (okSld rfl (by decide +kernel)) ?_
  refine ce_op (okAl1 (k := 0) (by decide +kernel) rfl) ?_
  refine ce_op (okIl2 (by decide +kernel)) ?_
  refine ce_op (okIc1 (n := 3) (by decide +kernel) (by decide)) ?_
  refine ce_op (okIadd (by decide +kernel)) ?_
  refine ce_op (okSld rfl (by decide +kernel)) ?_
  refine ce_op (okCJ miX7_takes (rV clX7 (x := 86) miX7_takes rfl (by decide +kernel) wd1407 wd1408 wd1409)) ?_
  refine ce_op (okPop2 (by decide +kernel)) ?_
  refine ce_op (okGoto (off := 551) (by decide +kernel) (by decide)) ?_
  refine ce_op (okAl1 (k := 1) (by decide +kernel) rfl) ?_
  refine ce_op (okAl1 (k := 0) (by decide +kernel) rfl) ?_
  refine ce_op (okIl2 (by decide +kernel)) ?_
  refine ce_op (okIc1 (n := 1) (by decide +kernel) (by decide)) ?_
  refine ce_op (okIadd (by decide +kernel)) ?_
  refine ce_op (okSld rfl (by decide +kernel)) ?_
  refine ce_op (okAl1 (k := 0) (by decide +kernel) rfl) ?_
  refine ce_op (okIl2 (by decide +kernel)) ?_
  refine ce_op (okIc1 (n := 2) (by decide +kernel) (by decide)) ?_
  refine ce_op (okIadd (by decide +kernel)) ?_
  refine ce_op (okSld rfl (by decide +kernel)) ?_
  refine ce_op (okCI miX6_flow (rV clX6 (x := 87) miX6_flow rfl (by decide +kernel) wd719 wd720 wd721)) ?_
  refine ce_op (okPop (by decide +kernel)) ?_
  refine ce_op (okAl1 (k := 2) (by decide +kernel) rfl) ?_
  refine ce_op (okAl1 (k := 0) (by decide +kernel) rfl) ?_
  refine ce_op (okIl2 (by decide +kernel)) ?_
  refine ce_op (okIc1 (n := 1) (by decide +kernel) (by decide)) ?_
  refine ce_op (okIadd (by decide +kernel)) ?_
  refine ce_op (okSld rfl (by decide +kernel)) ?_
  refine ce_op (okAl1 (k := 0) (by decide +kernel) rfl) ?_
  refine ce_op (okIl2 (by decide +kernel)) ?_
  refine ce_op (okIc1 (n := 2) (by decide +kernel) (by decide)) ?_
  refine ce_op (okIadd (by decide +kernel)) ?_
  refine ce_op (okSld rfl (by decide +kernel)) ?_
  refine ce_op (okCI miX7_flow (rV clX7 (x := 90) miX7_flow rfl (by decide +kernel) wd1417 wd1418 wd1419)) ?_
  refine ce_op (okPop (by decide +kernel)) ?_
  refine ce_op (okGoto (off := 514) (by decide +kernel) (by decide)) ?_
  refine ce_op (okAl1 (k := 1) (by decide +kernel) rfl) ?_
  refine ce_op (okAl1 (k := 0) (by decide +kernel) rfl) ?_
  refine ce_op (okIl2 (by decide +kernel)) ?_
  refine ce_op (okIc1 (n := 1) (by decide +kernel) (by decide)) ?_
  refine ce_op (okIadd (by decide +kernel)) ?_
  refine ce_op (okSld rfl (by decide +kernel)) ?_
  refine ce_op (okAl1 (k := 0) (by decide +kernel) rfl) ?_
  refine ce_op (okIl2 (by decide +kernel)) ?_
  refine ce_op (okIc1 (n := 2) (by decide +kernel) (by decide)) ?_
  refine ce_op (okIadd (by decide +kernel)) ?_
  refine ce_op (okSld rfl (by decide +kernel)) ?_
  refine ce_op (okAl1 (k := 0) (by decide +kernel) rfl) ?_
  refine ce_op (okIl2 (by decide +kernel)) ?_
  refine ce_op (okIc1 (n := 3) (by decide +kernel) (by decide)) ?_
  refine ce_op (okIadd (by decide +kernel)) ?_
  refine ce_op (okSld rfl (by decide +kernel)) ?_
  refine ce_op (okAl1 (k := 0) (by decide +kernel) rfl) ?_
  refine ce_op (okIl2 (by decide +kernel)) ?_
  refine ce_op (okIc1 (n := 4) (by decide +kernel) (by decide)) ?_
  refine ce_op (okIadd (by decide +kernel)) ?_
  refine ce_op (okSld rfl (by decide +kernel)) ?_
  refine ce_op (okAl1 (k := 0) (by decide +kernel) rfl) ?_
  refine ce_op (okIl2 (by decide +kernel)) ?_
  refine ce_op (okIc1 (n := 5) (by decide +kernel) (by decide)) ?_
  refine ce_op (okIadd (by decide +kernel)) ?_
  refine ce_op (okSld rfl (by decide +kernel)) ?_
  refine ce_op (okCI miX6_luck (rV clX6 (x := 91) miX6_luck rfl (by decide +kernel) wd765 wd766 wd767)) ?_
  refine ce_op (okPop (by decide +kernel)) ?_
  refine ce_op (okAl1 (k := 2) (by decide +kernel) rfl) ?_
  refine ce_op (okAl1 (k := 0) (by decide +kernel) rfl) ?_
  refine ce_op (okIl2 (by decide +kernel)) ?_
  refine ce_op (okIc1 (n := 1) (by decide +kernel) (by decide)) ?_
  refine ce_op (okIadd (by decide +kernel)) ?_
  refine ce_op (okSld rfl (by decide +kernel)) ?_
  refine ce_op (okAl1 (k := 0) (by decide +kernel) rfl) ?_
  refine ce_op (okIl2 (by decide +kernel)) ?_
  refine ce_op (okIc1 (n := 2) (by decide +kernel) (by decide)) ?_
  refine ce_op (okIadd (by decide +kernel)) ?_
  refine ce_op (okSld rfl (by decide +kernel)) ?_
  refine ce_op (okAl1 (k := 0) (by decide +kernel) rfl) ?_
  refine ce_op (okIl2 (by decide +kernel)) ?_
  refine ce_op (okIc1 (n := 3) (by decide +kernel) (by decide)) ?_
  refine ce_op (okIadd (by decide +kernel)) ?_
  refine ce_op (okSld rfl (by decide +kernel)) ?_
  refine ce_op (okAl1 (k := 0) (by decide +kernel) rfl) ?_
  refine ce_op (okIl2 (by decide +kernel)) ?_
  refine ce_op (okIc1 (n := 4) (by decide +kernel) (by decide)) ?_
  refine ce_op (okIadd (by decide +kernel)) ?_
  refine ce_op (okSld rfl (by decide +kernel)) ?_
  refine ce_op (okAl1 (k := 0) (by decide +kernel) rfl) ?_
  refine ce_op (okIl2 (by decide +kernel)) ?_
  refine ce_op (okIc1 (n := 5) (by decide +kernel) (by decide)) ?_
  refine ce_op (okIadd (by decide +kernel)) ?_
  refine ce_op (okSld rfl (by decide +kernel)) ?_
  refine ce_op (okCI miX7_luck (rV clX7 (x := 94) miX7_luck rfl (by decide +kernel) wd1437 wd1438 wd1439)) ?_
  refine ce_op (okPop (by decide +kernel)) ?_
  refine ce_op (okGoto (off := 441) (by decide +kernel) (by decide)) ?_
  refine ce_op (okAl1 (k := 1) (by decide +kernel) rfl) ?_
  refine ce_op (okAl1 (k := 0) (by decide +kernel) rfl) ?_
  refine ce_op (okIl2 (by decide +kernel)) ?_
  refine ce_op (okIc1 (n := 1) (by decide +kernel) (by decide)) ?_
  refine ce_op (okIadd (by decide +kernel)) ?_
  refine ce_op (okSld rfl (by decide +kernel)) ?_
  refine ce_op (okAl1 (k := 0) (by decide +kernel) rfl) ?_
  refine ce_op (okIl2 (by decide +kernel)) ?_
  refine ce_op (okIc1 (n := 2) (by decide +kernel) (by decide)) ?_
  refine ce_op (okIadd (by decide +kernel)) ?_
  refine ce_op (okSld rfl (by decide +kernel)) ?_
  refine ce_op (okAl1 (k := 0) (by decide +kernel) rfl) ?_
  refine ce_op (okIl2 (by decide +kernel)) ?_
  refine ce_op (okIc1 (n := 3) (by decide +kernel) (by decide)) ?_
  refine ce_op (okIadd (by decide +kernel)) ?_
  refine ce_op (okSld rfl (by decide +kernel)) ?_
  refine ce_op (okAl1 (k := 0) (by decide +kernel) rfl) ?_
  refine ce_op (okIl2 (by decide +kernel)) ?_
  refine ce_op (okIc1 (n := 4) (by decide +kernel) (by decide)) ?_
  refine ce_op (okIadd (by decide +kernel)) ?_
  refine ce_op (okSld rfl (by decide +kernel)) ?_
  refine ce_op (okCI miX6_signs (rV clX6 (x := 95) miX6_signs rfl (by decide +kernel) wd779 wd780 wd781)) ?_
  refine ce_op (okPop (by decide +kernel)) ?_
  refine ce_op (okAl1 (k := 2) (by decide +kernel) rfl) ?_
  refine ce_op (okAl1 (k := 0) (by decide +kernel) rfl) ?_
  refine ce_op (okIl2 (by decide +kernel)) ?_
  refine ce_op (okIc1 (n := 1) (by decide +kernel) (by decide)) ?_
  refine ce_op (okIadd (by decide +kernel)) ?_
  refine ce_op (okSld rfl (by decide +kernel)) ?_
  refine ce_op (okAl1 (k := 0) (by decide +kernel) rfl) ?_
  refine ce_op (okIl2 (by decide +kernel)) ?_
  refine ce_op (okIc1 (n := 2) (by decide +kernel) (by decide)) ?_
  refine ce_op (okIadd (by decide +kernel)) ?_
  refine ce_op (okSld rfl (by decide +kernel)) ?_
  refine ce_op (okAl1 (k := 0) (by decide +kernel) rfl) ?_
  refine ce_op (okIl2 (by decide +kernel)) ?_
  refine ce_op (okIc1 (n := 3) (by decide +kernel) (by decide)) ?_
  refine ce_op (okIadd (by decide +kernel)) ?_
  refine ce_op (okSld rfl (by decide +kernel)) ?_
  refine ce_op (okAl1 (k := 0) (by decide +kernel) rfl) ?_
  refine ce_op (okIl2 (by decide +kernel)) ?_
  refine ce_op (okIc1 (n := 4) (by decide +kernel) (by decide)) ?_
  refine ce_op (okIadd (by decide +kernel)) ?_
  refine ce_op (okSld rfl (by decide +kernel)) ?_
  refine ce_op (okCI miX7_signs (rV clX7 (x := 99) miX7_signs rfl (by decide +kernel) wd1443 wd1444 wd1445)) ?_
  refine ce_op (okPop (by decide +kernel)) ?_
  refine ce_op (okGoto (off := 380) (by decide +kernel) (by decide)) ?_
  refine ce_op (okAl1 (k := 1) (by decide +kernel) rfl) ?_
  refine ce_op (okAl1 (k := 0) (by decide +kernel) rfl) ?_
  refine ce_op (okIl2 (by decide +kernel)) ?_
  refine ce_op (okIc1 (n := 1) (by decide +kernel) (by decide)) ?_
  refine ce_op (okIadd (by decide +kernel)) ?_
  refine ce_op (okSld rfl (by decide +kernel)) ?_
  refine ce_op (okAl1 (k := 0) (by decide +kernel) rfl) ?_
  refine ce_op (okIl2 (by decide +kernel)) ?_
  refine ce_op (okIc1 (n := 2) (by decide +kernel) (by decide)) ?_
  refine ce_op (okIadd (by decide +kernel)) ?_
  refine ce_op (okSld rfl (by decide +kernel)) ?_
  refine ce_op (okAl1 (k := 0) (by decide +kernel) rfl) ?_
  refine ce_op (okIl2 (by decide +kernel)) ?_
  refine ce_op (okIc1 (n := 3) (by decide +kernel) (by decide)) ?_
  refine ce_op (okIadd (by decide +kernel)) ?_
  refine ce_op (okSld rfl (by decide +kernel)) ?_
  refine ce_op (okAl1 (k := 0) (by decide +kernel) rfl) ?_
  refine ce_op (okIl2 (by decide +kernel)) ?_
  refine ce_op (okIc1 (n := 4) (by decide +kernel) (by decide)) ?_
  refine ce_op (okIadd (by decide +kernel)) ?_
  refine ce_op (okSld rfl (by decide +kernel)) ?_
  refine ce_op (okAl1 (k := 0) (by decide +kernel) rfl) ?_
  refine ce_op (okIl2 (by decide +kernel)) ?_
  refine ce_op (okIc1 (n := 5) (by decide +kernel) (by decide)) ?_
  refine ce_op (okIadd (by decide +kernel)) ?_
  refine ce_op (okSld rfl (by decide +kernel)) ?_
  refine ce_op (okCI miX6_knew (rV clX6 (x := 100) miX6_knew rfl (by decide +kernel) wd811 wd812 wd813)) ?_
  refine ce_op (okPop (by decide +kernel)) ?_
  refine ce_op (okAl1 (k := 2) (by decide +kernel) rfl) ?_
  refine ce_op (okAl1 (k := 0) (by decide +kernel) rfl) ?_
  refine ce_op (okIl2 (by decide +kernel)) ?_
  refine ce_op (okIc1 (n := 1) (by decide +kernel) (by decide)) ?_
  refine ce_op (okIadd (by decide +kernel)) ?_
  refine ce_op (okSld rfl (by decide +kernel)) ?_
  refine ce_op (okAl1 (k := 0) (by decide +kernel) rfl) ?_
  refine ce_op (okIl2 (by decide +kernel)) ?_
  refine ce_op (okIc1 (n := 2) (by decide +kernel) (by decide)) ?_
  refine ce_op (okIadd (by decide +kernel)) ?_
  refine ce_op (okSld rfl (by decide +kernel)) ?_
  refine ce_op (okAl1 (k := 0) (by decide +kernel) rfl) ?_
  refine ce_op (okIl2 (by decide +kernel)) ?_
  refine ce_op (okIc1 (n := 3) (by decide +kernel) (by decide)) ?_
  refine ce_op (okIadd (by decide +kernel)) ?_
  refine ce_op (okSld rfl (by decide +kernel)) ?_
  refine ce_op (okAl1 (k := 0) (by decide +kernel) rfl) ?_
  refine ce_op (okIl2 (by decide +kernel)) ?_
  refine ce_op (okIc1 (n := 4) (by decide +kernel) (by decide)) ?_
  refine ce_op (okIadd (by decide +kernel)) ?_
  refine ce_op (okSld rfl (by decide +kernel)) ?_
  refine ce_op (okAl1 (k := 0) (by decide +kernel) rfl) ?_
  refine ce_op (okIl2 (by decide +kernel)) ?_
  refine ce_op (okIc1 (n := 5) (by decide +kernel) (by decide)) ?_
  refine ce_op (okIadd (by decide +kernel)) ?_
  refine ce_op (okSld rfl (by decide +kernel)) ?_
  refine ce_op (okCI miX7_knew (rV clX7 (x := 103) miX7_knew rfl (by decide +kernel) wd1471 wd1472 wd1473)) ?_
  refine ce_op (okPop (by decide +kernel)) ?_
  refine ce_op (okGoto (off := 307) (by decide +kernel) (by decide)) ?_
  refine ce_op (okAl1 (k := 1) (by decide +kernel) rfl) ?_
  refine ce_op (okCI miX6_hands (rV clX6 (x := 104) miX6_hands rfl (by decide +kernel) wd815 wd816 wd817)) ?_
  refine ce_op (okPop (by decide +kernel)) ?_
  refine ce_op (okAl1 (k := 2) (by decide +kernel) rfl) ?_
  refine ce_op (okCI miX7_hands (rV clX7 (x := 107) miX7_hands rfl (by decide +kernel) wd1475 wd1476 wd1477)) ?_
  refine ce_op (okPop (by decide +kernel)) ?_
  refine ce_op (okGoto (off := 294) (by decide +kernel) (by decide)) ?_
  refine ce_op (okAl1 (k := 1) (by decide +kernel) rfl) ?_
  refine ce_op (okAl1 (k := 0) (by decide +kernel) rfl) ?_
  refine ce_op (okIl2 (by decide +kernel)) ?_
  refine ce_op (okIc1 (n := 1) (by decide +kernel) (by decide)) ?_
  refine ce_op (okIadd (by decide +kernel)) ?_
  refine ce_op (okSld rfl (by decide +kernel)) ?_
  refine ce_op (okCI miX6_lacking (rV clX6 (x := 108) miX6_lacking rfl (by decide +kernel) wd819 wd820 wd821)) ?_
  refine ce_op (okPop (by decide +kernel)) ?_
  refine ce_op (okAl1 (k := 2) (by decide +kernel) rfl) ?_
  refine ce_op (okAl1 (k := 0) (by decide +kernel) rfl) ?_
  refine ce_op (okIl2 (by decide +kernel)) ?_
  refine ce_op (okIc1 (n := 1) (by decide +kernel) (by decide)) ?_
  refine ce_op (okIadd (by decide +kernel)) ?_
  refine ce_op (okSld rfl (by decide +kernel)) ?_
  refine ce_op (okCI miX7_lacking (rV clX7 (x := 111) miX7_lacking rfl (by decide +kernel) wd1479 wd1480 wd1481)) ?_
  refine ce_op (okPop (by decide +kernel)) ?_
  refine ce_op (okGoto (off := 269) (by decide +kernel) (by decide)) ?_
  refine ce_op (okAl1 (k := 1) (by decide +kernel) rfl) ?_
  refine ce_op (okAl1 (k := 0) (by decide +kernel) rfl) ?_
  refine ce_op (okIl2 (by decide +kernel)) ?_
  refine ce_op (okIc1 (n := 1) (by decide +kernel) (by decide)) ?_
  refine ce_op (okIadd (by decide +kernel)) ?_
  refine ce_op (okSld rfl (by decide +kernel)) ?_
  refine ce_op (okCI miX6_stop (rV clX6 (x := 112) miX6_stop rfl (by decide +kernel) wd835 wd836 wd837)) ?_
  refine ce_op (okPop (by decide +kernel)) ?_
  refine ce_op (okAl1 (k := 2) (by decide +kernel) rfl) ?_
  refine ce_op (okAl1 (k := 0) (by decide +kernel) rfl) ?_
  refine ce_op (okIl2 (by decide +kernel)) ?_
  refine ce_op (okIc1 (n := 1) (by decide +kernel) (by decide)) ?_
  refine ce_op (okIadd (by decide +kernel)) ?_
  refine ce_op (okSld rfl (by decide +kernel)) ?_
  refine ce_op (okCI miX7_stop (rV clX7 (x := 115) miX7_stop rfl (by decide +kernel) wd1483 wd1484 wd1485)) ?_
  refine ce_op (okPop (by decide +kernel)) ?_
  refine ce_op (okGoto (off := 244) (by decide +kernel) (by decide)) ?_
  refine ce_op (okAl1 (k := 1) (by decide +kernel) rfl) ?_
  refine ce_op (okAl1 (k := 0) (by decide +kernel) rfl) ?_
  refine ce_op (okIl2 (by decide +kernel)) ?_
  refine ce_op (okIc1 (n := 1) (by decide +kernel) (by decide)) ?_
  refine ce_op (okIadd (by decide +kernel)) ?_
  refine ce_op (okSld rfl (by decide +kernel)) ?_
  refine ce_op (okAl1 (k := 0) (by decide +kernel) rfl) ?_
  refine ce_op (okIl2 (by decide +kernel)) ?_
  refine ce_op (okIc1 (n := 2) (by decide +kernel) (by decide)) ?_
  refine ce_op (okIadd (by decide +kernel)) ?_
  refine ce_op (okSld rfl (by decide +kernel)) ?_
  refine ce_op (okAl1 (k := 0) (by decide +kernel) rfl) ?_
  refine ce_op (okIl2 (by decide +kernel)) ?_
  refine ce_op (okIc1 (n := 3) (by decide +kernel) (by decide)) ?_
  refine ce_op (okIadd (by decide +kernel)) ?_
  refine ce_op (okSld rfl (by decide +kernel)) ?_
  refine ce_op (okAl1 (k := 0) (by decide +kernel) rfl) ?_
  refine ce_op (okIl2 (by decide +kernel)) ?_
  refine ce_op (okIc1 (n := 4) (by decide +kernel) (by decide)) ?_
  refine ce_op (okIadd (by decide +kernel)) ?_
  refine ce_op (okSld rfl (by decide +kernel)) ?_
  refine ce_op (okI2l (by decide +kernel)) ?_
  refine ce_op (okIc2 (n := 32) (by decide +kernel) (by decide)) ?_
  refine ce_op (okLshl (by decide +kernel)) ?_
  refine ce_op (okAl1 (k := 0) (by decide +kernel) rfl) ?_
  refine ce_op (okIl2 (by decide +kernel)) ?_
  refine ce_op (okIc1 (n := 5) (by decide +kernel) (by decide)) ?_
  refine ce_op (okIadd (by decide +kernel)) ?_
  refine ce_op (okSld rfl (by decide +kernel)) ?_
  refine ce_op (okI2l (by decide +kernel)) ?_
  refine ce_op (okJcL (k := 75) (by decide +kernel) wd1514) ?_
  refine ce_op (okLand (by decide +kernel)) ?_
  refine ce_op (okLor (by decide +kernel)) ?_
  refine ce_op (okCI miX6_fewest (rV clX6 (x := 116) miX6_fewest rfl (by decide +kernel) wd848 wd849 wd850)) ?_
  refine ce_op (okPop (by decide +kernel)) ?_
  refine ce_op (okAl1 (k := 2) (by decide +kernel) rfl) ?_
  refine ce_op (okAl1 (k := 0) (by decide +kernel) rfl) ?_
  refine ce_op (okIl2 (by decide +kernel)) ?_
  refine ce_op (okIc1 (n := 1) (by decide +kernel) (by decide)) ?_
  refine ce_op (okIadd (by decide +kernel)) ?_
  refine ce_op (okSld rfl (by decide +kernel)) ?_
  refine ce_op (okAl1 (k := 0) (by decide +kernel) rfl) ?_
  refine ce_op (okIl2 (by decide +kernel)) ?_
  refine ce_op (okIc1 (n := 2) (by decide +kernel) (by decide)) ?_
  refine ce_op (okIadd (by decide +kernel)) ?_
  refine ce_op (okSld rfl (by decide +kernel)) ?_
  refine ce_op (okAl1 (k := 0) (by decide +kernel) rfl) ?_
  refine ce_op (okIl2 (by decide +kernel)) ?_
  refine ce_op (okIc1 (n := 3) (by decide +kernel) (by decide)) ?_
  refine ce_op (okIadd (by decide +kernel)) ?_
  refine ce_op (okSld rfl (by decide +kernel)) ?_
  refine ce_op (okAl1 (k := 0) (by decide +kernel) rfl) ?_
  refine ce_op (okIl2 (by decide +kernel)) ?_
  refine ce_op (okIc1 (n := 4) (by decide +kernel) (by decide)) ?_
  refine ce_op (okIadd (by decide +kernel)) ?_
  refine ce_op (okSld rfl (by decide +kernel)) ?_
  refine ce_op (okI2l (by decide +kernel)) ?_
  refine ce_op (okIc2 (n := 32) (by decide +kernel) (by decide)) ?_
  refine ce_op (okLshl (by decide +kernel)) ?_
  refine ce_op (okAl1 (k := 0) (by decide +kernel) rfl) ?_
  refine ce_op (okIl2 (by decide +kernel)) ?_
  refine ce_op (okIc1 (n := 5) (by decide +kernel) (by decide)) ?_
  refine ce_op (okIadd (by decide +kernel)) ?_
  refine ce_op (okSld rfl (by decide +kernel)) ?_
  refine ce_op (okI2l (by decide +kernel)) ?_
  refine ce_op (okJcL (k := 75) (by decide +kernel) wd1514) ?_
  refine ce_op (okLand (by decide +kernel)) ?_
  refine ce_op (okLor (by decide +kernel)) ?_
  refine ce_op (okCI miX7_fewest (rV clX7 (x := 120) miX7_fewest rfl (by decide +kernel) wd1490 wd1491 wd1492)) ?_
  refine ce_op (okPop (by decide +kernel)) ?_
  refine ce_op (okGoto (off := 151) (by decide +kernel) (by decide)) ?_
  refine ce_op (okAl1 (k := 1) (by decide +kernel) rfl) ?_
  refine ce_op (okAl1 (k := 0) (by decide +kernel) rfl) ?_
  refine ce_op (okIl2 (by decide +kernel)) ?_
  refine ce_op (okIc1 (n := 1) (by decide +kernel) (by decide)) ?_
  refine ce_op (okIadd (by decide +kernel)) ?_
  refine ce_op (okSld rfl (by decide +kernel)) ?_
  refine ce_op (okCI miX6_rule (rV clX6 (x := 121) miX6_rule rfl (by decide +kernel) wd860 wd861 wd862)) ?_
  refine ce_op (okPop (by decide +kernel)) ?_
  refine ce_op (okAl1 (k := 2) (by decide +kernel) rfl) ?_
  refine ce_op (okAl1 (k := 0) (by decide +kernel) rfl) ?_
  refine ce_op (okIl2 (by decide +kernel)) ?_
  refine ce_op (okIc1 (n := 1) (by decide +kernel) (by decide)) ?_
  refine ce_op (okIadd (by decide +kernel)) ?_
  refine ce_op (okSld rfl (by decide +kernel)) ?_
  refine ce_op (okCI miX7_rule (rV clX7 (x := 124) miX7_rule rfl (by decide +kernel) wd1494 wd1495 wd1496)) ?_
  refine ce_op (okPop (by decide +kernel)) ?_
  refine ce_op (okGoto (off := 126) (by decide +kernel) (by decide)) ?_
  refine ce_op (okAl1 (k := 1) (by decide +kernel) rfl) ?_
  refine ce_op (okAl1 (k := 0) (by decide +kernel) rfl) ?_
  refine ce_op (okIl2 (by decide +kernel)) ?_
  refine ce_op (okIc1 (n := 1) (by decide +kernel) (by decide)) ?_
  refine ce_op (okIadd (by decide +kernel)) ?_
  refine ce_op (okSld rfl (by decide +kernel)) ?_
  refine ce_op (okCI miX6_burden (rV clX6 (x := 125) miX6_burden rfl (by decide +kernel) wd864 wd865 wd866)) ?_
  refine ce_op (okPop (by decide +kernel)) ?_
  refine ce_op (okAl1 (k := 2) (by decide +kernel) rfl) ?_
  refine ce_op (okAl1 (k := 0) (by decide +kernel) rfl) ?_
  refine ce_op (okIl2 (by decide +kernel)) ?_
  refine ce_op (okIc1 (n := 1) (by decide +kernel) (by decide)) ?_
  refine ce_op (okIadd (by decide +kernel)) ?_
  refine ce_op (okSld rfl (by decide +kernel)) ?_
  refine ce_op (okCI miX7_burden (rV clX7 (x := 128) miX7_burden rfl (by decide +kernel) wd1498 wd1499 wd1500)) ?_
  refine ce_op (okPop (by decide +kernel)) ?_
  refine ce_op (okGoto (off := 101) (by decide +kernel) (by decide)) ?_
  refine ce_op (okAl1 (k := 1) (by decide +kernel) rfl) ?_
  refine ce_op (okAl1 (k := 0) (by decide +kernel) rfl) ?_
  refine ce_op (okIl2 (by decide +kernel)) ?_
  refine ce_op (okIc1 (n := 1) (by decide +kernel) (by decide)) ?_
  refine ce_op (okIadd (by decide +kernel)) ?_
  refine ce_op (okSld rfl (by decide +kernel)) ?_
  refine ce_op (okAl1 (k := 0) (by decide +kernel) rfl) ?_
  refine ce_op (okIl2 (by decide +kernel)) ?_
  refine ce_op (okIc1 (n := 2) (by decide +kernel) (by decide)) ?_
  refine ce_op (okIadd (by decide +kernel)) ?_
  refine ce_op (okSld rfl (by decide +kernel)) ?_
  refine ce_op (okAl1 (k := 0) (by decide +kernel) rfl) ?_
  refine ce_op (okIl2 (by decide +kernel)) ?_
  refine ce_op (okIc1 (n := 3) (by decide +kernel) (by decide)) ?_
  refine ce_op (okIadd (by decide +kernel)) ?_
  refine ce_op (okSld rfl (by decide +kernel)) ?_
  refine ce_op (okAl1 (k := 0) (by decide +kernel) rfl) ?_
  refine ce_op (okIl2 (by decide +kernel)) ?_
  refine ce_op (okIc1 (n := 4) (by decide +kernel) (by decide)) ?_
  refine ce_op (okIadd (by decide +kernel)) ?_
  refine ce_op (okSld rfl (by decide +kernel)) ?_
  refine ce_op (okAl1 (k := 0) (by decide +kernel) rfl) ?_
  refine ce_op (okIl2 (by decide +kernel)) ?_
  refine ce_op (okIc1 (n := 5) (by decide +kernel) (by decide)) ?_
  refine ce_op (okIadd (by decide +kernel)) ?_
  refine ce_op (okSld rfl (by decide +kernel)) ?_
  refine ce_op (okCJ miX6_starve (rV clX6 (x := 129) miX6_starve rfl (by decide +kernel) wd876 wd877 wd878)) ?_
  refine ce_op (okPop2 (by decide +kernel)) ?_
  refine ce_op (okAl1 (k := 2) (by decide +kernel) rfl) ?_
  refine ce_op (okAl1 (k := 0) (by decide +kernel) rfl) ?_
  refine ce_op (okIl2 (by decide +kernel)) ?_
  refine ce_op (okIc1 (n := 1) (by decide +kernel) (by decide)) ?_
  refine ce_op (okIadd (by decide +kernel)) ?_
  refine ce_op (okSld rfl (by decide +kernel)) ?_
  refine ce_op (okAl1 (k := 0) (by decide +kernel) rfl) ?_
  refine ce_op (okIl2 (by decide +kernel)) ?_
  refine ce_op (okIc1 (n := 2) (by decide +kernel) (by decide)) ?_
  refine ce_op (okIadd (by decide +kernel)) ?_
  refine ce_op (okSld rfl (by decide +kernel)) ?_
  refine ce_op (okAl1 (k := 0) (by decide +kernel) rfl) ?_
  refine ce_op (okIl2 (by decide +kernel)) ?_
  refine ce_op (okIc1 (n := 3) (by decide +kernel) (by decide)) ?_
  refine ce_op (okIadd (by decide +kernel)) ?_
  refine ce_op (okSld rfl (by decide +kernel)) ?_
  refine ce_op (okAl1 (k := 0) (by decide +kernel) rfl) ?_
  refine ce_op (okIl2 (by decide +kernel)) ?_
  refine ce_op (okIc1 (n := 4) (by decide +kernel) (by decide)) ?_
  refine ce_op (okIadd (by decide +kernel)) ?_
  refine ce_op (okSld rfl (by decide +kernel)) ?_
  refine ce_op (okAl1 (k := 0) (by decide +kernel) rfl) ?_
  refine ce_op (okIl2 (by decide +kernel)) ?_
  refine ce_op (okIc1 (n := 5) (by decide +kernel) (by decide)) ?_
  refine ce_op (okIadd (by decide +kernel)) ?_
  refine ce_op (okSld rfl (by decide +kernel)) ?_
  refine ce_op (okCJ miX7_starve (rV clX7 (x := 133) miX7_starve rfl (by decide +kernel) wd1506 wd1507 wd1508)) ?_
  refine ce_op (okPop2 (by decide +kernel)) ?_
  refine ce_op (okGoto (off := 28) (by decide +kernel) (by decide)) ?_
  refine ce_op (okAl1 (k := 1) (by decide +kernel) rfl) ?_
  refine ce_op (okAl1 (k := 0) (by decide +kernel) rfl) ?_
  refine ce_op (okIl2 (by decide +kernel)) ?_
  refine ce_op (okIc1 (n := 1) (by decide +kernel) (by decide)) ?_
  refine ce_op (okIadd (by decide +kernel)) ?_
  refine ce_op (okSld rfl (by decide +kernel)) ?_
  refine ce_op (okCI miX6_count (rV clX6 (x := 134) miX6_count rfl (by decide +kernel) wd898 wd899 wd900)) ?_
  refine ce_op (okPop (by decide +kernel)) ?_
  refine ce_op (okAl1 (k := 2) (by decide +kernel) rfl) ?_
  refine ce_op (okAl1 (k := 0) (by decide +kernel) rfl) ?_
  refine ce_op (okIl2 (by decide +kernel)) ?_
  refine ce_op (okIc1 (n := 1) (by decide +kernel) (by decide)) ?_
  refine ce_op (okIadd (by decide +kernel)) ?_
  refine ce_op (okSld rfl (by decide +kernel)) ?_
  refine ce_op (okCI miX7_count (rV clX7 (x := 137) miX7_count rfl (by decide +kernel) wd1510 wd1511 wd1512)) ?_
  refine ce_op (okPop (by decide +kernel)) ?_
  refine ce_op (okGoto (off := 3) (by decide +kernel) (by decide)) ?_
  refine ce_op (okInc (n := 8) (by decide +kernel) (by decide)) ?_
  refine ce_op (okGoto (off := (-1352)) (by decide +kernel) (by decide)) ?_
  refine ce_op (okIc1 (n := 1) (by decide +kernel) (by decide)) ?_
  refine ce_op (okZret (by decide +kernel) rfl) ?_
  exact ce_nil
