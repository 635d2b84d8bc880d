/-! ===== what stands: strings, static arrays, the cells behind both constructors (printed by program) ===== -/
/-- the strings: bytes, hash -/
def w_sl : List (List Int × Int) := [([37, 80, 68, 70, 45, 49, 46], 833159517),
  ([115, 116, 97, 114, 116, 120, 114, 101, 102], (-2128213891)),
  ([111, 98, 106], 109815),
  ([115, 116, 114, 101, 97, 109], (-891990144)),
  ([101, 110, 100, 111, 98, 106], (-1298746820)),
  ([37, 37, 69, 79, 70], 35341372),
  ([101, 110, 100, 115, 116, 114, 101, 97, 109], (-1769633765)),
  ([101, 110, 100, 111, 98, 106], (-1298746820)),
  ([116, 114, 117, 101], 3569038),
  ([102, 97, 108, 115, 101], 97196323),
  ([110, 117, 108, 108], 3392903),
  ([82], 82),
  ([111, 98, 106], 109815),
  ([120, 114, 101, 102], 3687707),
  ([115, 116, 114, 101, 97, 109], (-891990144)),
  ([116, 114, 97, 105, 108, 101, 114], (-1067215565)),
  ([84, 121, 112, 101, 32, 67, 97, 116, 97, 108, 111, 103, 32, 80, 97, 103, 101, 115, 32, 80, 97, 103, 101, 32, 75, 105, 100, 115, 32, 67, 111, 117, 110, 116, 32, 80, 97, 114, 101, 110, 116, 32, 77, 101, 100, 105, 97, 66, 111, 120, 32, 82, 101, 115, 111, 117, 114, 99, 101, 115, 32, 82, 111, 116, 97, 116, 101, 32, 67, 111, 110, 116, 101, 110, 116, 115, 32, 70, 111, 110, 116, 32, 70, 105, 114, 115, 116, 67, 104, 97, 114, 32, 76, 97, 115, 116, 67, 104, 97, 114, 32, 87, 105, 100, 116, 104, 115, 32, 84, 105, 116, 108, 101, 32, 65, 117, 116, 104, 111, 114, 32, 83, 117, 98, 106, 101, 99, 116, 32, 75, 101, 121, 119, 111, 114, 100, 115, 32, 76, 101, 110, 103, 116, 104, 32, 70, 105, 108, 116, 101, 114, 32, 68, 101, 99, 111, 100, 101, 80, 97, 114, 109, 115, 32, 70, 108, 97, 116, 101, 68, 101, 99, 111, 100, 101, 32, 65, 83, 67, 73, 73, 72, 101, 120, 68, 101, 99, 111, 100, 101, 32, 80, 114, 101, 100, 105, 99, 116, 111, 114, 32, 67, 111, 108, 117, 109, 110, 115, 32, 67, 111, 108, 111, 114, 115, 32, 66, 105, 116, 115, 80, 101, 114, 67, 111, 109, 112, 111, 110, 101, 110, 116, 32, 88, 82, 101, 102, 32, 87, 32, 73, 110, 100, 101, 120, 32, 83, 105, 122, 101, 32, 80, 114, 101, 118, 32, 69, 110, 99, 114, 121, 112, 116, 32, 88, 82, 101, 102, 83, 116, 109, 32, 82, 111, 111, 116, 32, 73, 110, 102, 111, 32, 79, 98, 106, 83, 116, 109, 32, 78, 32, 70, 105, 114, 115, 116, 32], 1881649247),
  ([47, 76, 101, 110, 103, 116, 104, 32], 2034824907),
  ([32, 47, 70, 105, 108, 116, 101, 114, 32, 47, 70, 108, 97, 116, 101, 68, 101, 99, 111, 100, 101, 32, 62, 62, 10, 115, 116, 114, 101, 97, 109, 10], 2129482268),
  ([10, 101, 110, 100, 115, 116, 114, 101, 97, 109], 560198481),
  ([115, 116, 97, 114, 116, 120, 114, 101, 102, 10], (-1550121171)),
  ([10, 37, 37, 69, 79, 70, 10], 1380684760),
  ([32, 110, 32, 10], 1060024),
  ([32, 111, 98, 106, 10], 32956947),
  ([60, 60, 32], 59552),
  ([10, 101, 110, 100, 111, 98, 106, 10], (-1358211580)),
  ([110, 117, 108, 108], 3392903),
  ([32, 82], 1074),
  ([32, 47, 82, 111, 111, 116, 32], (-239937361)),
  ([32, 47, 73, 110, 102, 111, 32], (-248287645)),
  ([32, 48, 32, 111, 98, 106, 10, 60, 60, 32, 47, 84, 121, 112, 101, 32, 47, 88, 82, 101, 102, 32, 47, 83, 105, 122, 101, 32], (-529698918)),
  ([32, 47, 87, 32, 91, 32, 49, 32, 52, 32, 50, 32, 93, 32, 47, 73, 110, 100, 101, 120, 32, 91, 32], 1895516217),
  ([32, 47, 80, 114, 101, 118, 32], (-241704578)),
  ([32], 32),
  ([120, 114, 101, 102, 10], 114318927),
  ([48, 48, 48, 48, 48, 48, 48, 48, 48, 48, 32, 54, 53, 53, 51, 53, 32, 102, 32, 10], 725339848),
  ([48, 32, 48, 10, 116, 114, 97, 105, 108, 101, 114, 10, 60, 60, 32, 47, 83, 105, 122, 101, 32], (-902283249)),
  ([116, 114, 97, 105, 108, 101, 114, 10, 60, 60, 32, 47, 83, 105, 122, 101, 32], 1001013913),
  ([32, 62, 62, 10], 1014826),
  ([116, 114, 117, 101], 3569038),
  ([102, 97, 108, 115, 101], 97196323),
  ([91, 32], 2853),
  ([93], 93),
  ([62, 62], 1984),
  ([37, 80, 68, 70, 45, 49, 46, 55, 10], 1802380496),
  ([120, 114, 101, 102, 10, 48, 32], (-1808659329)),
  ([10, 48, 48, 48, 48, 48, 48, 48, 48, 48, 48, 32, 54, 53, 53, 51, 53, 32, 102, 32, 10], (-1456118318)),
  ([113], 113),
  ([81], 81),
  ([66, 84], 2130),
  ([69, 84], 2223),
  ([84, 42], 2646),
  ([99, 109], 3178),
  ([84, 109], 2713),
  ([84, 100], 2704),
  ([84, 68], 2672),
  ([84, 99], 2703),
  ([84, 119], 2723),
  ([84, 76], 2680),
  ([84, 102], 2706),
  ([84, 106], 2710),
  ([39], 39),
  ([84, 74], 2678),
  ([109], 109),
  ([108], 108),
  ([99], 99),
  ([118], 118),
  ([121], 121),
  ([114, 101], 3635),
  ([107], 107),
  ([75], 75),
  ([104], 104),
  ([83], 83),
  ([115], 115),
  ([102], 102),
  ([70], 70),
  ([102, 42], 3204),
  ([66], 66),
  ([66, 42], 2088),
  ([98], 98),
  ([98, 42], 3080),
  ([110], 110),
  ([87], 87),
  ([87, 42], 2739),
  ([119], 119),
  ([74], 74),
  ([106], 106),
  ([77], 77),
  ([105], 105),
  ([103], 103),
  ([71], 71),
  ([114, 103], 3637),
  ([82, 71], 2613),
  ([100], 100),
  ([67, 111, 110, 116, 101, 110, 116, 115], (-502677702)),
  ([67, 111, 117, 110, 116], 65298671),
  ([70, 105, 108, 116, 101, 114], 2104342424),
  ([37, 37, 69, 79, 70], 35341372),
  ([73, 110, 100, 101, 120], 70793394),
  ([83, 105, 122, 101], 2577441),
  ([76, 101, 110, 103, 116, 104], (-2022496506)),
  ([68, 101, 99, 111, 100, 101, 80, 97, 114, 109, 115], (-1448065895)),
  ([70, 108, 97, 116, 101, 68, 101, 99, 111, 100, 101], 1578622202),
  ([65, 83, 67, 73, 73, 72, 101, 120, 68, 101, 99, 111, 100, 101], (-1002766152)),
  ([80, 114, 101, 100, 105, 99, 116, 111, 114], 655954012),
  ([67, 111, 108, 117, 109, 110, 115], (-1680592963)),
  ([115, 116, 97, 114, 116, 120, 114, 101, 102, 10], (-1550121171)),
  ([10, 37, 37, 69, 79, 70, 10], 1380684760),
  ([70, 111, 110, 116], 2195567),
  ([84, 121, 112, 101], 2622298),
  ([70, 105, 114, 115, 116, 67, 104, 97, 114], 2136482310),
  ([76, 97, 115, 116, 67, 104, 97, 114], (-1395277012)),
  ([87, 105, 100, 116, 104, 115], (-1704167539)),
  ([111, 98, 106], 109815),
  ([84, 105, 116, 108, 101], 80818744),
  ([65, 117, 116, 104, 111, 114], 1972506027),
  ([83, 117, 98, 106, 101, 99, 116], (-203231988)),
  ([75, 101, 121, 119, 111, 114, 100, 115], 587793354),
  ([80, 97, 103, 101], 2479791),
  ([80, 97, 114, 101, 110, 116], (-1911556918)),
  ([77, 101, 100, 105, 97, 66, 111, 120], (-836157593)),
  ([67, 111, 108, 111, 114, 115], 2023991696),
  ([66, 105, 116, 115, 80, 101, 114, 67, 111, 109, 112, 111, 110, 101, 110, 116], (-1838620506)),
  ([75, 105, 100, 115], 2338445),
  ([47, 82, 111, 111, 116, 32], 1424715919),
  ([47, 73, 110, 102, 111, 32], 1416365635),
  ([47, 80, 114, 101, 118, 32], 1422948702),
  ([80, 97, 103, 101, 115], 76873636),
  ([82, 101, 115, 111, 117, 114, 99, 101, 115], 20897285),
  ([82, 111, 116, 97, 116, 101], (-1841313413)),
  ([32, 111, 98, 106, 10], 32956947),
  ([60, 60, 32], 59552),
  ([10, 101, 110, 100, 111, 98, 106, 10], (-1358211580)),
  ([110, 117, 108, 108], 3392903),
  ([116, 114, 117, 101], 3569038),
  ([102, 97, 108, 115, 101], 97196323),
  ([115, 116, 114, 101, 97, 109], (-891990144)),
  ([101, 110, 100, 111, 98, 106], (-1298746820)),
  ([37, 80, 68, 70, 45, 49, 46], 833159517),
  ([115, 116, 97, 114, 116, 120, 114, 101, 102], (-2128213891)),
  ([79, 98, 106, 83, 116, 109], (-1939517995)),
  ([78], 78),
  ([70, 105, 114, 115, 116], 67887760),
  ([32, 48, 32, 111, 98, 106, 10, 60, 60, 32, 47, 84, 121, 112, 101, 32, 47, 88, 82, 101, 102, 32, 47, 83, 105, 122, 101, 32], (-529698918)),
  ([32, 47, 87, 32, 91, 32, 49, 32, 52, 32, 50, 32, 93, 32, 47, 73, 110, 100, 101, 120, 32, 91, 32], 1895516217),
  ([32, 49, 32], 32303),
  ([93, 32], 2915),
  ([88, 82, 101, 102], 2703643),
  ([32, 110, 32, 10], 1060024),
  ([32, 82], 1074),
  ([120, 114, 101, 102], 3687707),
  ([69, 110, 99, 114, 121, 112, 116], 57395781),
  ([88, 82, 101, 102, 83, 116, 109], (-1060066543)),
  ([80, 114, 101, 118], 2496083),
  ([101, 110, 100, 115, 116, 114, 101, 97, 109], (-1769633765)),
  ([47, 76, 101, 110, 103, 116, 104, 32], 2034824907),
  ([32, 47, 70, 105, 108, 116, 101, 114, 32, 47, 70, 108, 97, 116, 101, 68, 101, 99, 111, 100, 101, 32, 62, 62, 10, 115, 116, 114, 101, 97, 109, 10], 2129482268),
  ([10, 101, 110, 100, 115, 116, 114, 101, 97, 109], 560198481),
  ([116, 114, 97, 105, 108, 101, 114], (-1067215565)),
  ([120, 114, 101, 102, 10], 114318927),
  ([48, 48, 48, 48, 48, 48, 48, 48, 48, 48, 32, 54, 53, 53, 51, 53, 32, 102, 32, 10], 725339848),
  ([48, 32, 48, 10], 1462218),
  ([116, 114, 97, 105, 108, 101, 114, 10, 60, 60, 32, 47, 83, 105, 122, 101, 32], 1001013913),
  ([62, 62, 10], 61514),
  ([82, 111, 111, 116], 2553090),
  ([73, 110, 102, 111], 2283726),
  ([67, 97, 116, 97, 108, 111, 103], (-2074609671)),
  ([37, 80, 68, 70, 45, 49, 46, 55, 10], 1802380496),
  ([120, 114, 101, 102, 10, 48, 32], (-1808659329)),
  ([10, 48, 48, 48, 48, 48, 48, 48, 48, 48, 48, 32, 54, 53, 53, 51, 53, 32, 102, 32, 10], (-1456118318)),
  ([32, 47, 82, 111, 111, 116, 32, 49, 32, 48, 32, 82, 32], 621417468),
  ([82], 82),
  ([], 0),
  ([91, 32], 2853),
  ([62, 62], 1984)]
def w_ORDER : List Int := [16, 17, 18, 0, 8, 7, 9, 6, 10, 5, 11, 4, 12, 3, 13, 2, 14, 1, 15]
def w_LENGTHS : List Int := [3, 4, 5, 6, 7, 8, 9, 10, 11, 13, 15, 17, 19, 23, 27, 31, 35, 43, 51, 59, 67, 83, 99, 115, 131, 163, 195, 227, 258]
def w_LENGTH_BITS : List Int := [0, 0, 0, 0, 0, 0, 0, 0, 1, 1, 1, 1, 2, 2, 2, 2, 3, 3, 3, 3, 4, 4, 4, 4, 5, 5, 5, 5, 0]
def w_DISTANCES : List Int := [1, 2, 3, 4, 5, 7, 9, 13, 17, 25, 33, 49, 65, 97, 129, 193, 257, 385, 513, 769, 1025, 1537, 2049, 3073, 4097, 6145, 8193, 12289, 16385, 24577]
def w_DISTANCE_BITS : List Int := [0, 0, 0, 0, 1, 1, 2, 2, 3, 3, 4, 4, 5, 5, 6, 6, 7, 7, 8, 8, 9, 9, 10, 10, 11, 11, 12, 12, 13, 13]
def w_xm : w_M := fun i j => if i < 350 then (match w_sl[i.toNat / 2]? with
  | some q => if i.toNat % 2 = 0 then (if j = 2 then q.2 else if j = 3 then (if q.2 = 0 then 1 else 0) else 0) else q.1.getD j.toNat 0
  | none => 0) else if i = 352 then w_ORDER.getD j.toNat 0 else if i = 353 then w_LENGTHS.getD j.toNat 0 else if i = 354 then w_LENGTH_BITS.getD j.toNat 0 else if i = 355 then w_DISTANCES.getD j.toNat 0 else if i = 356 then w_DISTANCE_BITS.getD j.toNat 0 else 0
def w_shx (i : Nat) : Option w_S := if i < 350 then (match w_sl[i / 2]? with
  | some q => if i % 2 = 0 then some (.inl (13, [i + 11, 0, 0, 2])) else some (.inr (1, q.1.length))
  | none => none) else if i = 352 then some (.inr (1, 19)) else if i = 353 then some (.inr (0, 29)) else if i = 354 then some (.inr (1, 29)) else if i = 355 then some (.inr (0, 30)) else if i = 356 then some (.inr (1, 30)) else none
def w_shL : List w_S := [.inl (11, [368, 0, 369, 376, 386, 401, 404, 409, 414, 427, 428, 437, 0, 0, 2, 0, 0, 0, 0]),
  .inr (1, 8000),
  .inl (7, [370, 371, 372, 373, 374, 375, 0, 0, 0]),
  .inr (0, 16564),
  .inr (0, 16564),
  .inr (0, 16564),
  .inr (0, 16564),
  .inr (0, 16564),
  .inr (1, 108612),
  .inl (8, [369, 377, 378, 379, 380, 381, 382, 383, 384, 385, 0, 0, 0, 0, 0]),
  .inr (0, 200),
  .inr (0, 200),
  .inr (0, 200),
  .inr (0, 200),
  .inr (0, 200),
  .inr (0, 200),
  .inr (2, 200),
  .inr (2, 200),
  .inr (1, 40000),
  .inl (5, [369, 375, 3, 0, 0, 0, 0, 0, 0, 0, 2, 0, 0, 0, 0, 2, 2, 0]),
  .inr (1, 0),
  .inl (1, [369, 389, 397, 398, 399, 400, 0, 3, 0]),
  .inl (2, [390, 391, 392, 393, 394, 395, 3, 0, 0, 3, 0, 0, 0, 0, 0]),
  .inr (0, 320),
  .inr (0, 16),
  .inr (0, 288),
  .inr (0, 16),
  .inr (0, 32),
  .inr (0, 16),
  .inr (1, 0),
  .inr (1, 8000),
  .inr (1, 8000),
  .inr (2, 3),
  .inr (0, 3),
  .inl (6, [386, 369, 376, 388, 402, 403, 0, 0, 0, 0, 2, 0, 0]),
  .inr (0, 10),
  .inr (0, 3),
  .inl (3, [405, 0, 386, 369, 376, 388, 406, 407, 408, 0]),
  .inr (1, 8000),
  .inr (0, 200),
  .inr (0, 200),
  .inr (0, 200),
  .inl (9, [386, 376, 369, 410, 411, 412, 413, 0, 0]),
  .inr (0, 60),
  .inr (0, 200),
  .inr (2, 200),
  .inr (1, 0),
  .inl (4, [376, 369, 409, 415, 417, 418, 419, 420, 421, 422, 423, 424, 425, 426, 0, 0, 2, 0, 0]),
  .inl (5, [369, 375, 3, 0, 0, 0, 0, 0, 0, 0, 2, 0, 0, 0, 0, 2, 2, 0]),
  .inr (1, 0),
  .inr (1, 40000),
  .inr (0, 12),
  .inr (0, 240),
  .inr (0, 6),
  .inr (0, 6),
  .inr (0, 6),
  .inr (0, 6),
  .inr (0, 256),
  .inr (0, 40),
  .inr (0, 7500),
  .inl (0, [376, 369, 409]),
  .inl (10, [376, 369, 429, 0, 2, 2, 430, 431, 432, 0, 433, 434, 0, 0, 0, 435, 436, 0]),
  .inr (1, 30000),
  .inr (0, 200),
  .inr (0, 200),
  .inr (0, 200),
  .inr (1, 1400),
  .inr (1, 9216),
  .inr (0, 4096),
  .inr (0, 8000),
  .inr (0, 25),
  .inl (12, [439, 0, 440, 0, 441, 0, 2, 442, 443, 444, 445, 446, 447, 448, 449, 0, 450, 0, 3, 0, 0, 0, 0, 0, 0, 2, 0, 0, 0, 0, 0, 0, 2, 451, 0, 452, 453, 0, 0, 0, 2, 454, 455, 456, 457, 458, 459, 460, 461, 462, 463, 464, 465, 466, 467, 468, 469, 470, 471, 472, 0, 0, 473, 2, 0, 0, 0, 0, 0, 0, 0, 0, 474, 475, 476, 0, 477, 0, 1, 0, 0, 0, 0, 0, 0, 478, 479, 480, 0, 0, 481, 482, 0, 483, 0, 484, 485, 486, 487, 488, 489, 490, 0, 2, 0, 491, 0, 0, 492, 2, 493, 494, 0, 495, 496, 0, 0, 497, 498, 499, 0]),
  .inr (1, 8000),
  .inr (1, 8000),
  .inr (1, 30100),
  .inr (1, 40000),
  .inr (0, 40000),
  .inr (0, 40000),
  .inr (0, 40000),
  .inr (0, 40000),
  .inr (0, 40000),
  .inr (0, 40000),
  .inr (0, 40000),
  .inr (1, 150000),
  .inr (1, 57000),
  .inr (1, 8200),
  .inr (1, 8200),
  .inr (0, 320),
  .inr (0, 16),
  .inr (0, 288),
  .inr (0, 16),
  .inr (0, 32),
  .inr (0, 16),
  .inr (0, 340),
  .inr (1, 200),
  .inr (3, 200),
  .inr (3, 200),
  .inr (2, 200),
  .inr (0, 200),
  .inr (1, 200),
  .inr (2, 200),
  .inr (0, 200),
  .inr (0, 200),
  .inr (2, 200),
  .inr (2, 200),
  .inr (2, 200),
  .inr (3, 12),
  .inr (1, 200),
  .inr (3, 200),
  .inr (3, 200),
  .inr (0, 3),
  .inr (0, 61),
  .inr (0, 200),
  .inr (2, 200),
  .inr (0, 26),
  .inr (1, 40100),
  .inr (0, 40),
  .inr (0, 6),
  .inr (0, 6),
  .inr (0, 6),
  .inr (0, 6),
  .inr (3, 6),
  .inr (0, 9),
  .inr (0, 300),
  .inr (0, 7500),
  .inr (4, 47),
  .inr (0, 200),
  .inr (0, 200),
  .inr (0, 201),
  .inr (1, 50000),
  .inr (0, 4096),
  .inr (0, 57000),
  .inr (1, 1400)]
def ex_strs : List (String × Nat × Nat × String) := [("PaperHouse$Loader", 82, 0, "%PDF-1."), ("PaperHouse$Loader", 102, 2, "startxref"), ("PaperHouse$Loader", 174, 4, "obj"), ("PaperHouse$Loader", 183, 6, "stream"), ("PaperHouse$Loader", 188, 8, "endobj"), ("PaperHouse$Loader", 121, 10, "%%EOF"), ("PaperHouse$Parser", 152, 12, "endstream"), ("PaperHouse$Parser", 157, 14, "endobj"), ("PaperHouse$Parser", 148, 16, "true"), ("PaperHouse$Parser", 150, 18, "false"), ("PaperHouse$Parser", 146, 20, "null"), ("PaperHouse$Parser", 186, 22, "R"), ("PaperHouse$Sections", 155, 24, "obj"), ("PaperHouse$Sections", 68, 26, "xref"), ("PaperHouse$Sections", 157, 28, "stream"), ("PaperHouse$Sections", 113, 30, "trailer"), ("PaperHouse$Store", 40, 32, "Type Catalog Pages Page Kids Count Parent MediaBox Resources Rotate Contents Font FirstChar LastChar Widths Title Author Subject Keywords Length Filter DecodeParms FlateDecode ASCIIHexDecode Predictor Columns Colors BitsPerComponent XRef W Index Size Prev Encrypt XRefStm Root Info ObjStm N First "), ("PaperHouse$Writer", 284, 34, "/Length "), ("PaperHouse$Writer", 289, 36, " /Filter /FlateDecode >>\nstream\n"), ("PaperHouse$Writer", 291, 38, "\nendstream"), ("PaperHouse$Writer", 150, 40, "startxref\n"), ("PaperHouse$Writer", 152, 42, "\n%%EOF\n"), ("PaperHouse$Writer", 316, 44, " n \n"), ("PaperHouse$Writer", 205, 46, " obj\n"), ("PaperHouse$Writer", 219, 48, "<< "), ("PaperHouse$Writer", 202, 50, "\nendobj\n"), ("PaperHouse$Writer", 261, 52, "null"), ("PaperHouse$Writer", 162, 54, " R"), ("PaperHouse$Writer", 154, 56, " /Root "), ("PaperHouse$Writer", 160, 58, " /Info "), ("PaperHouse$Writer", 186, 60, " 0 obj\n<< /Type /XRef /Size "), ("PaperHouse$Writer", 188, 62, " /W [ 1 4 2 ] /Index [ "), ("PaperHouse$Writer", 184, 64, " /Prev "), ("PaperHouse$Writer", 197, 66, " "), ("PaperHouse$Writer", 174, 68, "xref\n"), ("PaperHouse$Writer", 180, 70, "0000000000 65535 f \n"), ("PaperHouse$Writer", 182, 72, "0 0\ntrailer\n<< /Size "), ("PaperHouse$Writer", 110, 74, "trailer\n<< /Size "), ("PaperHouse$Writer", 115, 76, " >>\n"), ("PaperHouse$Writer", 239, 78, "true"), ("PaperHouse$Writer", 241, 80, "false"), ("PaperHouse$Writer", 252, 82, "[ "), ("PaperHouse$Writer", 254, 84, "]"), ("PaperHouse$Writer", 256, 86, ">>"), ("PaperHouse$Writer", 78, 88, "%PDF-1.7\n"), ("PaperHouse$Writer", 98, 90, "xref\n0 "), ("PaperHouse$Writer", 104, 92, "\n0000000000 65535 f \n"), ("PaperHouseModel", 182, 94, "q"), ("PaperHouseModel", 184, 96, "Q"), ("PaperHouseModel", 186, 98, "BT"), ("PaperHouseModel", 188, 100, "ET"), ("PaperHouseModel", 190, 102, "T*"), ("PaperHouseModel", 192, 104, "cm"), ("PaperHouseModel", 194, 106, "Tm"), ("PaperHouseModel", 196, 108, "Td"), ("PaperHouseModel", 198, 110, "TD"), ("PaperHouseModel", 200, 112, "Tc"), ("PaperHouseModel", 202, 114, "Tw"), ("PaperHouseModel", 204, 116, "TL"), ("PaperHouseModel", 206, 118, "Tf"), ("PaperHouseModel", 208, 120, "Tj"), ("PaperHouseModel", 210, 122, "'"), ("PaperHouseModel", 212, 124, "TJ"), ("PaperHouseModel", 214, 126, "m"), ("PaperHouseModel", 216, 128, "l"), ("PaperHouseModel", 218, 130, "c"), ("PaperHouseModel", 220, 132, "v"), ("PaperHouseModel", 222, 134, "y"), ("PaperHouseModel", 224, 136, "re"), ("PaperHouseModel", 226, 138, "k"), ("PaperHouseModel", 228, 140, "K"), ("PaperHouseModel", 230, 142, "h"), ("PaperHouseModel", 232, 144, "S"), ("PaperHouseModel", 234, 146, "s"), ("PaperHouseModel", 236, 148, "f"), ("PaperHouseModel", 238, 150, "F"), ("PaperHouseModel", 240, 152, "f*"), ("PaperHouseModel", 242, 154, "B"), ("PaperHouseModel", 244, 156, "B*"), ("PaperHouseModel", 246, 158, "b"), ("PaperHouseModel", 248, 160, "b*"), ("PaperHouseModel", 250, 162, "n"), ("PaperHouseModel", 252, 164, "W"), ("PaperHouseModel", 254, 166, "W*"), ("PaperHouseModel", 256, 168, "w"), ("PaperHouseModel", 258, 170, "J"), ("PaperHouseModel", 260, 172, "j"), ("PaperHouseModel", 262, 174, "M"), ("PaperHouseModel", 264, 176, "i"), ("PaperHouseModel", 266, 178, "g"), ("PaperHouseModel", 268, 180, "G"), ("PaperHouseModel", 270, 182, "rg"), ("PaperHouseModel", 272, 184, "RG"), ("PaperHouseModel", 274, 186, "d"), ("PaperHouseModel", 873, 188, "Contents"), ("PaperHouseModel", 865, 190, "Count"), ("PaperHouseModel", 505, 192, "Filter"), ("PaperHouseModel", 675, 194, "%%EOF"), ("PaperHouseModel", 754, 196, "Index"), ("PaperHouseModel", 696, 198, "Size"), ("PaperHouseModel", 736, 200, "Length"), ("PaperHouseModel", 522, 202, "DecodeParms"), ("PaperHouseModel", 514, 204, "FlateDecode"), ("PaperHouseModel", 520, 206, "ASCIIHexDecode"), ("PaperHouseModel", 539, 208, "Predictor"), ("PaperHouseModel", 545, 210, "Columns"), ("PaperHouseModel", 1163, 212, "startxref\n"), ("PaperHouseModel", 1165, 214, "\n%%EOF\n"), ("PaperHouseModel", 988, 216, "Font"), ("PaperHouseModel", 732, 218, "Type"), ("PaperHouseModel", 990, 220, "FirstChar"), ("PaperHouseModel", 992, 222, "LastChar"), ("PaperHouseModel", 994, 224, "Widths"), ("PaperHouseModel", 759, 226, "obj"), ("PaperHouseModel", 1051, 228, "Title"), ("PaperHouseModel", 1053, 230, "Author"), ("PaperHouseModel", 1055, 232, "Subject"), ("PaperHouseModel", 1057, 234, "Keywords"), ("PaperHouseModel", 834, 236, "Page"), ("PaperHouseModel", 836, 238, "Parent"), ("PaperHouseModel", 847, 240, "MediaBox"), ("PaperHouseModel", 550, 242, "Colors"), ("PaperHouseModel", 552, 244, "BitsPerComponent"), ("PaperHouseModel", 863, 246, "Kids"), ("PaperHouseModel", 1198, 248, "/Root "), ("PaperHouseModel", 1185, 250, "/Info "), ("PaperHouseModel", 1200, 252, "/Prev "), ("PaperHouseModel", 823, 254, "Pages"), ("PaperHouseModel", 849, 256, "Resources"), ("PaperHouseModel", 851, 258, "Rotate"), ("PaperHouseModel", 1151, 260, " obj\n"), ("PaperHouseModel", 1103, 262, "<< "), ("PaperHouseModel", 1159, 264, "\nendobj\n"), ("PaperHouseModel", 459, 266, "null"), ("PaperHouseModel", 465, 268, "true"), ("PaperHouseModel", 467, 270, "false"), ("PaperHouseModel", 761, 272, "stream"), ("PaperHouseModel", 745, 274, "endobj"), ("PaperHouseModel", 654, 276, "%PDF-1."), ("PaperHouseModel", 659, 278, "startxref"), ("PaperHouseModel", 781, 280, "ObjStm"), ("PaperHouseModel", 783, 282, "N"), ("PaperHouseModel", 785, 284, "First"), ("PaperHouseModel", 1217, 286, " 0 obj\n<< /Type /XRef /Size "), ("PaperHouseModel", 1219, 288, " /W [ 1 4 2 ] /Index [ "), ("PaperHouseModel", 1227, 290, " 1 "), ("PaperHouseModel", 1229, 292, "] "), ("PaperHouseModel", 734, 294, "XRef"), ("PaperHouseModel", 1161, 296, " n \n"), ("PaperHouseModel", 1083, 298, " R"), ("PaperHouseModel", 684, 300, "xref"), ("PaperHouseModel", 692, 302, "Encrypt"), ("PaperHouseModel", 694, 304, "XRefStm"), ("PaperHouseModel", 698, 306, "Prev"), ("PaperHouseModel", 763, 308, "endstream"), ("PaperHouseModel", 1145, 310, "/Length "), ("PaperHouseModel", 1147, 312, " /Filter /FlateDecode >>\nstream\n"), ("PaperHouseModel", 1149, 314, "\nendstream"), ("PaperHouseModel", 722, 316, "trailer"), ("PaperHouseModel", 1202, 318, "xref\n"), ("PaperHouseModel", 1207, 320, "0000000000 65535 f \n"), ("PaperHouseModel", 1209, 322, "0 0\n"), ("PaperHouseModel", 1181, 324, "trailer\n<< /Size "), ("PaperHouseModel", 1187, 326, ">>\n"), ("PaperHouseModel", 802, 328, "Root"), ("PaperHouseModel", 807, 330, "Info"), ("PaperHouseModel", 821, 332, "Catalog"), ("PaperHouseModel", 1167, 334, "%PDF-1.7\n"), ("PaperHouseModel", 1173, 336, "xref\n0 "), ("PaperHouseModel", 1175, 338, "\n0000000000 65535 f \n"), ("PaperHouseModel", 1183, 340, " /Root 1 0 R "), ("PaperHouseModel", 489, 342, "R"), ("PaperHouseModel", 952, 344, ""), ("PaperHouseModel", 1098, 346, "[ "), ("PaperHouseModel", 1108, 348, ">>")]
def ex_stats : List (String × String × String × Value) := [("java/lang/String", "COMPACT_STRINGS", "Z", .int 1), ("jdk/internal/util/Preconditions", "SIOOBE_FORMATTER", "Ljava/util/function/BiFunction;", .retAddr 0), ("PaperHouse$Inflate", "ORDER", "[B", .ref 352), ("PaperHouse$Inflate", "LENGTHS", "[I", .ref 353), ("PaperHouse$Inflate", "LENGTH_BITS", "[B", .ref 354), ("PaperHouse$Inflate", "DISTANCES", "[I", .ref 355), ("PaperHouse$Inflate", "DISTANCE_BITS", "[B", .ref 356)]
noncomputable def w_G0 (S : Nat → Prop) : w_G := (357, w_shx, w_xm, w_shL, 1123657, ex_P0, ex_strs, ex_stats, S)
/-- the class may write its own cells, the reference its own -/
def sC : Nat → Prop := fun n => n < 428
def sM : Nat → Prop := fun n => 428 ≤ n
def w_sh0 (i : Nat) : Option w_S := if i < 357 then w_shx i else w_shL[i - 357]?
theorem w_sh0_eq {S : Nat → Prop} {i : Nat} : w_sh (w_G0 S) i = w_sh0 i := rfl
theorem s0_357 : w_sh0 (357 : Int).toNat = some (.inl (11, [368, 0, 369, 376, 386, 401, 404, 409, 414, 427, 428, 437, 0, 0, 2, 0, 0, 0, 0])) := rfl
theorem s_357 {S : Nat → Prop} : w_sh (w_G0 S) (357 : Int).toNat = some (.inl (11, [368, 0, 369, 376, 386, 401, 404, 409, 414, 427, 428, 437, 0, 0, 2, 0, 0, 0, 0])) := w_sh0_eq.trans s0_357
theorem s0_358 : w_sh0 (358 : Int).toNat = some (.inr (1, 8000)) := rfl
theorem s_358 {S : Nat → Prop} : w_sh (w_G0 S) (358 : Int).toNat = some (.inr (1, 8000)) := w_sh0_eq.trans s0_358
theorem s0_359 : w_sh0 (359 : Int).toNat = some (.inl (7, [370, 371, 372, 373, 374, 375, 0, 0, 0])) := rfl
theorem s_359 {S : Nat → Prop} : w_sh (w_G0 S) (359 : Int).toNat = some (.inl (7, [370, 371, 372, 373, 374, 375, 0, 0, 0])) := w_sh0_eq.trans s0_359
theorem s0_360 : w_sh0 (360 : Int).toNat = some (.inr (0, 16564)) := rfl
theorem s_360 {S : Nat → Prop} : w_sh (w_G0 S) (360 : Int).toNat = some (.inr (0, 16564)) := w_sh0_eq.trans s0_360
theorem s0_361 : w_sh0 (361 : Int).toNat = some (.inr (0, 16564)) := rfl
theorem s_361 {S : Nat → Prop} : w_sh (w_G0 S) (361 : Int).toNat = some (.inr (0, 16564)) := w_sh0_eq.trans s0_361
theorem s0_362 : w_sh0 (362 : Int).toNat = some (.inr (0, 16564)) := rfl
theorem s_362 {S : Nat → Prop} : w_sh (w_G0 S) (362 : Int).toNat = some (.inr (0, 16564)) := w_sh0_eq.trans s0_362
theorem s0_363 : w_sh0 (363 : Int).toNat = some (.inr (0, 16564)) := rfl
theorem s_363 {S : Nat → Prop} : w_sh (w_G0 S) (363 : Int).toNat = some (.inr (0, 16564)) := w_sh0_eq.trans s0_363
theorem s0_364 : w_sh0 (364 : Int).toNat = some (.inr (0, 16564)) := rfl
theorem s_364 {S : Nat → Prop} : w_sh (w_G0 S) (364 : Int).toNat = some (.inr (0, 16564)) := w_sh0_eq.trans s0_364
theorem s0_365 : w_sh0 (365 : Int).toNat = some (.inr (1, 108612)) := rfl
theorem s_365 {S : Nat → Prop} : w_sh (w_G0 S) (365 : Int).toNat = some (.inr (1, 108612)) := w_sh0_eq.trans s0_365
theorem s0_366 : w_sh0 (366 : Int).toNat = some (.inl (8, [369, 377, 378, 379, 380, 381, 382, 383, 384, 385, 0, 0, 0, 0, 0])) := rfl
theorem s_366 {S : Nat → Prop} : w_sh (w_G0 S) (366 : Int).toNat = some (.inl (8, [369, 377, 378, 379, 380, 381, 382, 383, 384, 385, 0, 0, 0, 0, 0])) := w_sh0_eq.trans s0_366
theorem s0_367 : w_sh0 (367 : Int).toNat = some (.inr (0, 200)) := rfl
theorem s_367 {S : Nat → Prop} : w_sh (w_G0 S) (367 : Int).toNat = some (.inr (0, 200)) := w_sh0_eq.trans s0_367
theorem s0_368 : w_sh0 (368 : Int).toNat = some (.inr (0, 200)) := rfl
theorem s_368 {S : Nat → Prop} : w_sh (w_G0 S) (368 : Int).toNat = some (.inr (0, 200)) := w_sh0_eq.trans s0_368
theorem s0_369 : w_sh0 (369 : Int).toNat = some (.inr (0, 200)) := rfl
theorem s_369 {S : Nat → Prop} : w_sh (w_G0 S) (369 : Int).toNat = some (.inr (0, 200)) := w_sh0_eq.trans s0_369
theorem s0_370 : w_sh0 (370 : Int).toNat = some (.inr (0, 200)) := rfl
theorem s_370 {S : Nat → Prop} : w_sh (w_G0 S) (370 : Int).toNat = some (.inr (0, 200)) := w_sh0_eq.trans s0_370
theorem s0_371 : w_sh0 (371 : Int).toNat = some (.inr (0, 200)) := rfl
theorem s_371 {S : Nat → Prop} : w_sh (w_G0 S) (371 : Int).toNat = some (.inr (0, 200)) := w_sh0_eq.trans s0_371
theorem s0_372 : w_sh0 (372 : Int).toNat = some (.inr (0, 200)) := rfl
theorem s_372 {S : Nat → Prop} : w_sh (w_G0 S) (372 : Int).toNat = some (.inr (0, 200)) := w_sh0_eq.trans s0_372
theorem s0_373 : w_sh0 (373 : Int).toNat = some (.inr (2, 200)) := rfl
theorem s_373 {S : Nat → Prop} : w_sh (w_G0 S) (373 : Int).toNat = some (.inr (2, 200)) := w_sh0_eq.trans s0_373
theorem s0_374 : w_sh0 (374 : Int).toNat = some (.inr (2, 200)) := rfl
theorem s_374 {S : Nat → Prop} : w_sh (w_G0 S) (374 : Int).toNat = some (.inr (2, 200)) := w_sh0_eq.trans s0_374
theorem s0_375 : w_sh0 (375 : Int).toNat = some (.inr (1, 40000)) := rfl
theorem s_375 {S : Nat → Prop} : w_sh (w_G0 S) (375 : Int).toNat = some (.inr (1, 40000)) := w_sh0_eq.trans s0_375
theorem s0_376 : w_sh0 (376 : Int).toNat = some (.inl (5, [369, 375, 3, 0, 0, 0, 0, 0, 0, 0, 2, 0, 0, 0, 0, 2, 2, 0])) := rfl
theorem s_376 {S : Nat → Prop} : w_sh (w_G0 S) (376 : Int).toNat = some (.inl (5, [369, 375, 3, 0, 0, 0, 0, 0, 0, 0, 2, 0, 0, 0, 0, 2, 2, 0])) := w_sh0_eq.trans s0_376
theorem s0_377 : w_sh0 (377 : Int).toNat = some (.inr (1, 0)) := rfl
theorem s_377 {S : Nat → Prop} : w_sh (w_G0 S) (377 : Int).toNat = some (.inr (1, 0)) := w_sh0_eq.trans s0_377
theorem s0_378 : w_sh0 (378 : Int).toNat = some (.inl (1, [369, 389, 397, 398, 399, 400, 0, 3, 0])) := rfl
theorem s_378 {S : Nat → Prop} : w_sh (w_G0 S) (378 : Int).toNat = some (.inl (1, [369, 389, 397, 398, 399, 400, 0, 3, 0])) := w_sh0_eq.trans s0_378
theorem s0_379 : w_sh0 (379 : Int).toNat = some (.inl (2, [390, 391, 392, 393, 394, 395, 3, 0, 0, 3, 0, 0, 0, 0, 0])) := rfl
theorem s_379 {S : Nat → Prop} : w_sh (w_G0 S) (379 : Int).toNat = some (.inl (2, [390, 391, 392, 393, 394, 395, 3, 0, 0, 3, 0, 0, 0, 0, 0])) := w_sh0_eq.trans s0_379
theorem s0_380 : w_sh0 (380 : Int).toNat = some (.inr (0, 320)) := rfl
theorem s_380 {S : Nat → Prop} : w_sh (w_G0 S) (380 : Int).toNat = some (.inr (0, 320)) := w_sh0_eq.trans s0_380
theorem s0_381 : w_sh0 (381 : Int).toNat = some (.inr (0, 16)) := rfl
theorem s_381 {S : Nat → Prop} : w_sh (w_G0 S) (381 : Int).toNat = some (.inr (0, 16)) := w_sh0_eq.trans s0_381
theorem s0_382 : w_sh0 (382 : Int).toNat = some (.inr (0, 288)) := rfl
theorem s_382 {S : Nat → Prop} : w_sh (w_G0 S) (382 : Int).toNat = some (.inr (0, 288)) := w_sh0_eq.trans s0_382
theorem s0_383 : w_sh0 (383 : Int).toNat = some (.inr (0, 16)) := rfl
theorem s_383 {S : Nat → Prop} : w_sh (w_G0 S) (383 : Int).toNat = some (.inr (0, 16)) := w_sh0_eq.trans s0_383
theorem s0_384 : w_sh0 (384 : Int).toNat = some (.inr (0, 32)) := rfl
theorem s_384 {S : Nat → Prop} : w_sh (w_G0 S) (384 : Int).toNat = some (.inr (0, 32)) := w_sh0_eq.trans s0_384
theorem s0_385 : w_sh0 (385 : Int).toNat = some (.inr (0, 16)) := rfl
theorem s_385 {S : Nat → Prop} : w_sh (w_G0 S) (385 : Int).toNat = some (.inr (0, 16)) := w_sh0_eq.trans s0_385
theorem s0_386 : w_sh0 (386 : Int).toNat = some (.inr (1, 0)) := rfl
theorem s_386 {S : Nat → Prop} : w_sh (w_G0 S) (386 : Int).toNat = some (.inr (1, 0)) := w_sh0_eq.trans s0_386
theorem s0_387 : w_sh0 (387 : Int).toNat = some (.inr (1, 8000)) := rfl
theorem s_387 {S : Nat → Prop} : w_sh (w_G0 S) (387 : Int).toNat = some (.inr (1, 8000)) := w_sh0_eq.trans s0_387
theorem s0_388 : w_sh0 (388 : Int).toNat = some (.inr (1, 8000)) := rfl
theorem s_388 {S : Nat → Prop} : w_sh (w_G0 S) (388 : Int).toNat = some (.inr (1, 8000)) := w_sh0_eq.trans s0_388
theorem s0_389 : w_sh0 (389 : Int).toNat = some (.inr (2, 3)) := rfl
theorem s_389 {S : Nat → Prop} : w_sh (w_G0 S) (389 : Int).toNat = some (.inr (2, 3)) := w_sh0_eq.trans s0_389
theorem s0_390 : w_sh0 (390 : Int).toNat = some (.inr (0, 3)) := rfl
theorem s_390 {S : Nat → Prop} : w_sh (w_G0 S) (390 : Int).toNat = some (.inr (0, 3)) := w_sh0_eq.trans s0_390
theorem s0_391 : w_sh0 (391 : Int).toNat = some (.inl (6, [386, 369, 376, 388, 402, 403, 0, 0, 0, 0, 2, 0, 0])) := rfl
theorem s_391 {S : Nat → Prop} : w_sh (w_G0 S) (391 : Int).toNat = some (.inl (6, [386, 369, 376, 388, 402, 403, 0, 0, 0, 0, 2, 0, 0])) := w_sh0_eq.trans s0_391
theorem s0_392 : w_sh0 (392 : Int).toNat = some (.inr (0, 10)) := rfl
theorem s_392 {S : Nat → Prop} : w_sh (w_G0 S) (392 : Int).toNat = some (.inr (0, 10)) := w_sh0_eq.trans s0_392
theorem s0_393 : w_sh0 (393 : Int).toNat = some (.inr (0, 3)) := rfl
theorem s_393 {S : Nat → Prop} : w_sh (w_G0 S) (393 : Int).toNat = some (.inr (0, 3)) := w_sh0_eq.trans s0_393
theorem s0_394 : w_sh0 (394 : Int).toNat = some (.inl (3, [405, 0, 386, 369, 376, 388, 406, 407, 408, 0])) := rfl
theorem s_394 {S : Nat → Prop} : w_sh (w_G0 S) (394 : Int).toNat = some (.inl (3, [405, 0, 386, 369, 376, 388, 406, 407, 408, 0])) := w_sh0_eq.trans s0_394
theorem s0_395 : w_sh0 (395 : Int).toNat = some (.inr (1, 8000)) := rfl
theorem s_395 {S : Nat → Prop} : w_sh (w_G0 S) (395 : Int).toNat = some (.inr (1, 8000)) := w_sh0_eq.trans s0_395
theorem s0_396 : w_sh0 (396 : Int).toNat = some (.inr (0, 200)) := rfl
theorem s_396 {S : Nat → Prop} : w_sh (w_G0 S) (396 : Int).toNat = some (.inr (0, 200)) := w_sh0_eq.trans s0_396
theorem s0_397 : w_sh0 (397 : Int).toNat = some (.inr (0, 200)) := rfl
theorem s_397 {S : Nat → Prop} : w_sh (w_G0 S) (397 : Int).toNat = some (.inr (0, 200)) := w_sh0_eq.trans s0_397
theorem s0_398 : w_sh0 (398 : Int).toNat = some (.inr (0, 200)) := rfl
theorem s_398 {S : Nat → Prop} : w_sh (w_G0 S) (398 : Int).toNat = some (.inr (0, 200)) := w_sh0_eq.trans s0_398
theorem s0_399 : w_sh0 (399 : Int).toNat = some (.inl (9, [386, 376, 369, 410, 411, 412, 413, 0, 0])) := rfl
theorem s_399 {S : Nat → Prop} : w_sh (w_G0 S) (399 : Int).toNat = some (.inl (9, [386, 376, 369, 410, 411, 412, 413, 0, 0])) := w_sh0_eq.trans s0_399
theorem s0_400 : w_sh0 (400 : Int).toNat = some (.inr (0, 60)) := rfl
theorem s_400 {S : Nat → Prop} : w_sh (w_G0 S) (400 : Int).toNat = some (.inr (0, 60)) := w_sh0_eq.trans s0_400
theorem s0_401 : w_sh0 (401 : Int).toNat = some (.inr (0, 200)) := rfl
theorem s_401 {S : Nat → Prop} : w_sh (w_G0 S) (401 : Int).toNat = some (.inr (0, 200)) := w_sh0_eq.trans s0_401
theorem s0_402 : w_sh0 (402 : Int).toNat = some (.inr (2, 200)) := rfl
theorem s_402 {S : Nat → Prop} : w_sh (w_G0 S) (402 : Int).toNat = some (.inr (2, 200)) := w_sh0_eq.trans s0_402
theorem s0_403 : w_sh0 (403 : Int).toNat = some (.inr (1, 0)) := rfl
theorem s_403 {S : Nat → Prop} : w_sh (w_G0 S) (403 : Int).toNat = some (.inr (1, 0)) := w_sh0_eq.trans s0_403
theorem s0_404 : w_sh0 (404 : Int).toNat = some (.inl (4, [376, 369, 409, 415, 417, 418, 419, 420, 421, 422, 423, 424, 425, 426, 0, 0, 2, 0, 0])) := rfl
theorem s_404 {S : Nat → Prop} : w_sh (w_G0 S) (404 : Int).toNat = some (.inl (4, [376, 369, 409, 415, 417, 418, 419, 420, 421, 422, 423, 424, 425, 426, 0, 0, 2, 0, 0])) := w_sh0_eq.trans s0_404
theorem s0_405 : w_sh0 (405 : Int).toNat = some (.inl (5, [369, 375, 3, 0, 0, 0, 0, 0, 0, 0, 2, 0, 0, 0, 0, 2, 2, 0])) := rfl
theorem s_405 {S : Nat → Prop} : w_sh (w_G0 S) (405 : Int).toNat = some (.inl (5, [369, 375, 3, 0, 0, 0, 0, 0, 0, 0, 2, 0, 0, 0, 0, 2, 2, 0])) := w_sh0_eq.trans s0_405
theorem s0_406 : w_sh0 (406 : Int).toNat = some (.inr (1, 0)) := rfl
theorem s_406 {S : Nat → Prop} : w_sh (w_G0 S) (406 : Int).toNat = some (.inr (1, 0)) := w_sh0_eq.trans s0_406
theorem s0_407 : w_sh0 (407 : Int).toNat = some (.inr (1, 40000)) := rfl
theorem s_407 {S : Nat → Prop} : w_sh (w_G0 S) (407 : Int).toNat = some (.inr (1, 40000)) := w_sh0_eq.trans s0_407
theorem s0_408 : w_sh0 (408 : Int).toNat = some (.inr (0, 12)) := rfl
theorem s_408 {S : Nat → Prop} : w_sh (w_G0 S) (408 : Int).toNat = some (.inr (0, 12)) := w_sh0_eq.trans s0_408
theorem s0_409 : w_sh0 (409 : Int).toNat = some (.inr (0, 240)) := rfl
theorem s_409 {S : Nat → Prop} : w_sh (w_G0 S) (409 : Int).toNat = some (.inr (0, 240)) := w_sh0_eq.trans s0_409
theorem s0_410 : w_sh0 (410 : Int).toNat = some (.inr (0, 6)) := rfl
theorem s_410 {S : Nat → Prop} : w_sh (w_G0 S) (410 : Int).toNat = some (.inr (0, 6)) := w_sh0_eq.trans s0_410
theorem s0_411 : w_sh0 (411 : Int).toNat = some (.inr (0, 6)) := rfl
theorem s_411 {S : Nat → Prop} : w_sh (w_G0 S) (411 : Int).toNat = some (.inr (0, 6)) := w_sh0_eq.trans s0_411
theorem s0_412 : w_sh0 (412 : Int).toNat = some (.inr (0, 6)) := rfl
theorem s_412 {S : Nat → Prop} : w_sh (w_G0 S) (412 : Int).toNat = some (.inr (0, 6)) := w_sh0_eq.trans s0_412
theorem s0_413 : w_sh0 (413 : Int).toNat = some (.inr (0, 6)) := rfl
theorem s_413 {S : Nat → Prop} : w_sh (w_G0 S) (413 : Int).toNat = some (.inr (0, 6)) := w_sh0_eq.trans s0_413
theorem s0_414 : w_sh0 (414 : Int).toNat = some (.inr (0, 256)) := rfl
theorem s_414 {S : Nat → Prop} : w_sh (w_G0 S) (414 : Int).toNat = some (.inr (0, 256)) := w_sh0_eq.trans s0_414
theorem s0_415 : w_sh0 (415 : Int).toNat = some (.inr (0, 40)) := rfl
theorem s_415 {S : Nat → Prop} : w_sh (w_G0 S) (415 : Int).toNat = some (.inr (0, 40)) := w_sh0_eq.trans s0_415
theorem s0_416 : w_sh0 (416 : Int).toNat = some (.inr (0, 7500)) := rfl
theorem s_416 {S : Nat → Prop} : w_sh (w_G0 S) (416 : Int).toNat = some (.inr (0, 7500)) := w_sh0_eq.trans s0_416
theorem s0_417 : w_sh0 (417 : Int).toNat = some (.inl (0, [376, 369, 409])) := rfl
theorem s_417 {S : Nat → Prop} : w_sh (w_G0 S) (417 : Int).toNat = some (.inl (0, [376, 369, 409])) := w_sh0_eq.trans s0_417
theorem s0_418 : w_sh0 (418 : Int).toNat = some (.inl (10, [376, 369, 429, 0, 2, 2, 430, 431, 432, 0, 433, 434, 0, 0, 0, 435, 436, 0])) := rfl
theorem s_418 {S : Nat → Prop} : w_sh (w_G0 S) (418 : Int).toNat = some (.inl (10, [376, 369, 429, 0, 2, 2, 430, 431, 432, 0, 433, 434, 0, 0, 0, 435, 436, 0])) := w_sh0_eq.trans s0_418
theorem s0_419 : w_sh0 (419 : Int).toNat = some (.inr (1, 30000)) := rfl
theorem s_419 {S : Nat → Prop} : w_sh (w_G0 S) (419 : Int).toNat = some (.inr (1, 30000)) := w_sh0_eq.trans s0_419
theorem s0_420 : w_sh0 (420 : Int).toNat = some (.inr (0, 200)) := rfl
theorem s_420 {S : Nat → Prop} : w_sh (w_G0 S) (420 : Int).toNat = some (.inr (0, 200)) := w_sh0_eq.trans s0_420
theorem s0_421 : w_sh0 (421 : Int).toNat = some (.inr (0, 200)) := rfl
theorem s_421 {S : Nat → Prop} : w_sh (w_G0 S) (421 : Int).toNat = some (.inr (0, 200)) := w_sh0_eq.trans s0_421
theorem s0_422 : w_sh0 (422 : Int).toNat = some (.inr (0, 200)) := rfl
theorem s_422 {S : Nat → Prop} : w_sh (w_G0 S) (422 : Int).toNat = some (.inr (0, 200)) := w_sh0_eq.trans s0_422
theorem s0_423 : w_sh0 (423 : Int).toNat = some (.inr (1, 1400)) := rfl
theorem s_423 {S : Nat → Prop} : w_sh (w_G0 S) (423 : Int).toNat = some (.inr (1, 1400)) := w_sh0_eq.trans s0_423
theorem s0_424 : w_sh0 (424 : Int).toNat = some (.inr (1, 9216)) := rfl
theorem s_424 {S : Nat → Prop} : w_sh (w_G0 S) (424 : Int).toNat = some (.inr (1, 9216)) := w_sh0_eq.trans s0_424
theorem s0_425 : w_sh0 (425 : Int).toNat = some (.inr (0, 4096)) := rfl
theorem s_425 {S : Nat → Prop} : w_sh (w_G0 S) (425 : Int).toNat = some (.inr (0, 4096)) := w_sh0_eq.trans s0_425
theorem s0_426 : w_sh0 (426 : Int).toNat = some (.inr (0, 8000)) := rfl
theorem s_426 {S : Nat → Prop} : w_sh (w_G0 S) (426 : Int).toNat = some (.inr (0, 8000)) := w_sh0_eq.trans s0_426
theorem s0_427 : w_sh0 (427 : Int).toNat = some (.inr (0, 25)) := rfl
theorem s_427 {S : Nat → Prop} : w_sh (w_G0 S) (427 : Int).toNat = some (.inr (0, 25)) := w_sh0_eq.trans s0_427
theorem s0_428 : w_sh0 (428 : Int).toNat = some (.inl (12, [439, 0, 440, 0, 441, 0, 2, 442, 443, 444, 445, 446, 447, 448, 449, 0, 450, 0, 3, 0, 0, 0, 0, 0, 0, 2, 0, 0, 0, 0, 0, 0, 2, 451, 0, 452, 453, 0, 0, 0, 2, 454, 455, 456, 457, 458, 459, 460, 461, 462, 463, 464, 465, 466, 467, 468, 469, 470, 471, 472, 0, 0, 473, 2, 0, 0, 0, 0, 0, 0, 0, 0, 474, 475, 476, 0, 477, 0, 1, 0, 0, 0, 0, 0, 0, 478, 479, 480, 0, 0, 481, 482, 0, 483, 0, 484, 485, 486, 487, 488, 489, 490, 0, 2, 0, 491, 0, 0, 492, 2, 493, 494, 0, 495, 496, 0, 0, 497, 498, 499, 0])) := rfl
theorem s_428 {S : Nat → Prop} : w_sh (w_G0 S) (428 : Int).toNat = some (.inl (12, [439, 0, 440, 0, 441, 0, 2, 442, 443, 444, 445, 446, 447, 448, 449, 0, 450, 0, 3, 0, 0, 0, 0, 0, 0, 2, 0, 0, 0, 0, 0, 0, 2, 451, 0, 452, 453, 0, 0, 0, 2, 454, 455, 456, 457, 458, 459, 460, 461, 462, 463, 464, 465, 466, 467, 468, 469, 470, 471, 472, 0, 0, 473, 2, 0, 0, 0, 0, 0, 0, 0, 0, 474, 475, 476, 0, 477, 0, 1, 0, 0, 0, 0, 0, 0, 478, 479, 480, 0, 0, 481, 482, 0, 483, 0, 484, 485, 486, 487, 488, 489, 490, 0, 2, 0, 491, 0, 0, 492, 2, 493, 494, 0, 495, 496, 0, 0, 497, 498, 499, 0])) := w_sh0_eq.trans s0_428
theorem s0_429 : w_sh0 (429 : Int).toNat = some (.inr (1, 8000)) := rfl
theorem s_429 {S : Nat → Prop} : w_sh (w_G0 S) (429 : Int).toNat = some (.inr (1, 8000)) := w_sh0_eq.trans s0_429
theorem s0_430 : w_sh0 (430 : Int).toNat = some (.inr (1, 8000)) := rfl
theorem s_430 {S : Nat → Prop} : w_sh (w_G0 S) (430 : Int).toNat = some (.inr (1, 8000)) := w_sh0_eq.trans s0_430
theorem s0_431 : w_sh0 (431 : Int).toNat = some (.inr (1, 30100)) := rfl
theorem s_431 {S : Nat → Prop} : w_sh (w_G0 S) (431 : Int).toNat = some (.inr (1, 30100)) := w_sh0_eq.trans s0_431
theorem s0_432 : w_sh0 (432 : Int).toNat = some (.inr (1, 40000)) := rfl
theorem s_432 {S : Nat → Prop} : w_sh (w_G0 S) (432 : Int).toNat = some (.inr (1, 40000)) := w_sh0_eq.trans s0_432
theorem s0_433 : w_sh0 (433 : Int).toNat = some (.inr (0, 40000)) := rfl
theorem s_433 {S : Nat → Prop} : w_sh (w_G0 S) (433 : Int).toNat = some (.inr (0, 40000)) := w_sh0_eq.trans s0_433
theorem s0_434 : w_sh0 (434 : Int).toNat = some (.inr (0, 40000)) := rfl
theorem s_434 {S : Nat → Prop} : w_sh (w_G0 S) (434 : Int).toNat = some (.inr (0, 40000)) := w_sh0_eq.trans s0_434
theorem s0_435 : w_sh0 (435 : Int).toNat = some (.inr (0, 40000)) := rfl
theorem s_435 {S : Nat → Prop} : w_sh (w_G0 S) (435 : Int).toNat = some (.inr (0, 40000)) := w_sh0_eq.trans s0_435
theorem s0_436 : w_sh0 (436 : Int).toNat = some (.inr (0, 40000)) := rfl
theorem s_436 {S : Nat → Prop} : w_sh (w_G0 S) (436 : Int).toNat = some (.inr (0, 40000)) := w_sh0_eq.trans s0_436
theorem s0_437 : w_sh0 (437 : Int).toNat = some (.inr (0, 40000)) := rfl
theorem s_437 {S : Nat → Prop} : w_sh (w_G0 S) (437 : Int).toNat = some (.inr (0, 40000)) := w_sh0_eq.trans s0_437
theorem s0_438 : w_sh0 (438 : Int).toNat = some (.inr (0, 40000)) := rfl
theorem s_438 {S : Nat → Prop} : w_sh (w_G0 S) (438 : Int).toNat = some (.inr (0, 40000)) := w_sh0_eq.trans s0_438
theorem s0_439 : w_sh0 (439 : Int).toNat = some (.inr (0, 40000)) := rfl
theorem s_439 {S : Nat → Prop} : w_sh (w_G0 S) (439 : Int).toNat = some (.inr (0, 40000)) := w_sh0_eq.trans s0_439
theorem s0_440 : w_sh0 (440 : Int).toNat = some (.inr (1, 150000)) := rfl
theorem s_440 {S : Nat → Prop} : w_sh (w_G0 S) (440 : Int).toNat = some (.inr (1, 150000)) := w_sh0_eq.trans s0_440
theorem s0_441 : w_sh0 (441 : Int).toNat = some (.inr (1, 57000)) := rfl
theorem s_441 {S : Nat → Prop} : w_sh (w_G0 S) (441 : Int).toNat = some (.inr (1, 57000)) := w_sh0_eq.trans s0_441
theorem s0_442 : w_sh0 (442 : Int).toNat = some (.inr (1, 8200)) := rfl
theorem s_442 {S : Nat → Prop} : w_sh (w_G0 S) (442 : Int).toNat = some (.inr (1, 8200)) := w_sh0_eq.trans s0_442
theorem s0_443 : w_sh0 (443 : Int).toNat = some (.inr (1, 8200)) := rfl
theorem s_443 {S : Nat → Prop} : w_sh (w_G0 S) (443 : Int).toNat = some (.inr (1, 8200)) := w_sh0_eq.trans s0_443
theorem s0_444 : w_sh0 (444 : Int).toNat = some (.inr (0, 320)) := rfl
theorem s_444 {S : Nat → Prop} : w_sh (w_G0 S) (444 : Int).toNat = some (.inr (0, 320)) := w_sh0_eq.trans s0_444
theorem s0_445 : w_sh0 (445 : Int).toNat = some (.inr (0, 16)) := rfl
theorem s_445 {S : Nat → Prop} : w_sh (w_G0 S) (445 : Int).toNat = some (.inr (0, 16)) := w_sh0_eq.trans s0_445
theorem s0_446 : w_sh0 (446 : Int).toNat = some (.inr (0, 288)) := rfl
theorem s_446 {S : Nat → Prop} : w_sh (w_G0 S) (446 : Int).toNat = some (.inr (0, 288)) := w_sh0_eq.trans s0_446
theorem s0_447 : w_sh0 (447 : Int).toNat = some (.inr (0, 16)) := rfl
theorem s_447 {S : Nat → Prop} : w_sh (w_G0 S) (447 : Int).toNat = some (.inr (0, 16)) := w_sh0_eq.trans s0_447
theorem s0_448 : w_sh0 (448 : Int).toNat = some (.inr (0, 32)) := rfl
theorem s_448 {S : Nat → Prop} : w_sh (w_G0 S) (448 : Int).toNat = some (.inr (0, 32)) := w_sh0_eq.trans s0_448
theorem s0_449 : w_sh0 (449 : Int).toNat = some (.inr (0, 16)) := rfl
theorem s_449 {S : Nat → Prop} : w_sh (w_G0 S) (449 : Int).toNat = some (.inr (0, 16)) := w_sh0_eq.trans s0_449
theorem s0_450 : w_sh0 (450 : Int).toNat = some (.inr (0, 340)) := rfl
theorem s_450 {S : Nat → Prop} : w_sh (w_G0 S) (450 : Int).toNat = some (.inr (0, 340)) := w_sh0_eq.trans s0_450
theorem s0_451 : w_sh0 (451 : Int).toNat = some (.inr (1, 200)) := rfl
theorem s_451 {S : Nat → Prop} : w_sh (w_G0 S) (451 : Int).toNat = some (.inr (1, 200)) := w_sh0_eq.trans s0_451
theorem s0_452 : w_sh0 (452 : Int).toNat = some (.inr (3, 200)) := rfl
theorem s_452 {S : Nat → Prop} : w_sh (w_G0 S) (452 : Int).toNat = some (.inr (3, 200)) := w_sh0_eq.trans s0_452
theorem s0_453 : w_sh0 (453 : Int).toNat = some (.inr (3, 200)) := rfl
theorem s_453 {S : Nat → Prop} : w_sh (w_G0 S) (453 : Int).toNat = some (.inr (3, 200)) := w_sh0_eq.trans s0_453
theorem s0_454 : w_sh0 (454 : Int).toNat = some (.inr (2, 200)) := rfl
theorem s_454 {S : Nat → Prop} : w_sh (w_G0 S) (454 : Int).toNat = some (.inr (2, 200)) := w_sh0_eq.trans s0_454
theorem s0_455 : w_sh0 (455 : Int).toNat = some (.inr (0, 200)) := rfl
theorem s_455 {S : Nat → Prop} : w_sh (w_G0 S) (455 : Int).toNat = some (.inr (0, 200)) := w_sh0_eq.trans s0_455
theorem s0_456 : w_sh0 (456 : Int).toNat = some (.inr (1, 200)) := rfl
theorem s_456 {S : Nat → Prop} : w_sh (w_G0 S) (456 : Int).toNat = some (.inr (1, 200)) := w_sh0_eq.trans s0_456
theorem s0_457 : w_sh0 (457 : Int).toNat = some (.inr (2, 200)) := rfl
theorem s_457 {S : Nat → Prop} : w_sh (w_G0 S) (457 : Int).toNat = some (.inr (2, 200)) := w_sh0_eq.trans s0_457
theorem s0_458 : w_sh0 (458 : Int).toNat = some (.inr (0, 200)) := rfl
theorem s_458 {S : Nat → Prop} : w_sh (w_G0 S) (458 : Int).toNat = some (.inr (0, 200)) := w_sh0_eq.trans s0_458
theorem s0_459 : w_sh0 (459 : Int).toNat = some (.inr (0, 200)) := rfl
theorem s_459 {S : Nat → Prop} : w_sh (w_G0 S) (459 : Int).toNat = some (.inr (0, 200)) := w_sh0_eq.trans s0_459
theorem s0_460 : w_sh0 (460 : Int).toNat = some (.inr (2, 200)) := rfl
theorem s_460 {S : Nat → Prop} : w_sh (w_G0 S) (460 : Int).toNat = some (.inr (2, 200)) := w_sh0_eq.trans s0_460
theorem s0_461 : w_sh0 (461 : Int).toNat = some (.inr (2, 200)) := rfl
theorem s_461 {S : Nat → Prop} : w_sh (w_G0 S) (461 : Int).toNat = some (.inr (2, 200)) := w_sh0_eq.trans s0_461
theorem s0_462 : w_sh0 (462 : Int).toNat = some (.inr (2, 200)) := rfl
theorem s_462 {S : Nat → Prop} : w_sh (w_G0 S) (462 : Int).toNat = some (.inr (2, 200)) := w_sh0_eq.trans s0_462
theorem s0_463 : w_sh0 (463 : Int).toNat = some (.inr (3, 12)) := rfl
theorem s_463 {S : Nat → Prop} : w_sh (w_G0 S) (463 : Int).toNat = some (.inr (3, 12)) := w_sh0_eq.trans s0_463
theorem s0_464 : w_sh0 (464 : Int).toNat = some (.inr (1, 200)) := rfl
theorem s_464 {S : Nat → Prop} : w_sh (w_G0 S) (464 : Int).toNat = some (.inr (1, 200)) := w_sh0_eq.trans s0_464
theorem s0_465 : w_sh0 (465 : Int).toNat = some (.inr (3, 200)) := rfl
theorem s_465 {S : Nat → Prop} : w_sh (w_G0 S) (465 : Int).toNat = some (.inr (3, 200)) := w_sh0_eq.trans s0_465
theorem s0_466 : w_sh0 (466 : Int).toNat = some (.inr (3, 200)) := rfl
theorem s_466 {S : Nat → Prop} : w_sh (w_G0 S) (466 : Int).toNat = some (.inr (3, 200)) := w_sh0_eq.trans s0_466
theorem s0_467 : w_sh0 (467 : Int).toNat = some (.inr (0, 3)) := rfl
theorem s_467 {S : Nat → Prop} : w_sh (w_G0 S) (467 : Int).toNat = some (.inr (0, 3)) := w_sh0_eq.trans s0_467
theorem s0_468 : w_sh0 (468 : Int).toNat = some (.inr (0, 61)) := rfl
theorem s_468 {S : Nat → Prop} : w_sh (w_G0 S) (468 : Int).toNat = some (.inr (0, 61)) := w_sh0_eq.trans s0_468
theorem s0_469 : w_sh0 (469 : Int).toNat = some (.inr (0, 200)) := rfl
theorem s_469 {S : Nat → Prop} : w_sh (w_G0 S) (469 : Int).toNat = some (.inr (0, 200)) := w_sh0_eq.trans s0_469
theorem s0_470 : w_sh0 (470 : Int).toNat = some (.inr (2, 200)) := rfl
theorem s_470 {S : Nat → Prop} : w_sh (w_G0 S) (470 : Int).toNat = some (.inr (2, 200)) := w_sh0_eq.trans s0_470
theorem s0_471 : w_sh0 (471 : Int).toNat = some (.inr (0, 26)) := rfl
theorem s_471 {S : Nat → Prop} : w_sh (w_G0 S) (471 : Int).toNat = some (.inr (0, 26)) := w_sh0_eq.trans s0_471
theorem s0_472 : w_sh0 (472 : Int).toNat = some (.inr (1, 40100)) := rfl
theorem s_472 {S : Nat → Prop} : w_sh (w_G0 S) (472 : Int).toNat = some (.inr (1, 40100)) := w_sh0_eq.trans s0_472
theorem s0_473 : w_sh0 (473 : Int).toNat = some (.inr (0, 40)) := rfl
theorem s_473 {S : Nat → Prop} : w_sh (w_G0 S) (473 : Int).toNat = some (.inr (0, 40)) := w_sh0_eq.trans s0_473
theorem s0_474 : w_sh0 (474 : Int).toNat = some (.inr (0, 6)) := rfl
theorem s_474 {S : Nat → Prop} : w_sh (w_G0 S) (474 : Int).toNat = some (.inr (0, 6)) := w_sh0_eq.trans s0_474
theorem s0_475 : w_sh0 (475 : Int).toNat = some (.inr (0, 6)) := rfl
theorem s_475 {S : Nat → Prop} : w_sh (w_G0 S) (475 : Int).toNat = some (.inr (0, 6)) := w_sh0_eq.trans s0_475
theorem s0_476 : w_sh0 (476 : Int).toNat = some (.inr (0, 6)) := rfl
theorem s_476 {S : Nat → Prop} : w_sh (w_G0 S) (476 : Int).toNat = some (.inr (0, 6)) := w_sh0_eq.trans s0_476
theorem s0_477 : w_sh0 (477 : Int).toNat = some (.inr (0, 6)) := rfl
theorem s_477 {S : Nat → Prop} : w_sh (w_G0 S) (477 : Int).toNat = some (.inr (0, 6)) := w_sh0_eq.trans s0_477
theorem s0_478 : w_sh0 (478 : Int).toNat = some (.inr (3, 6)) := rfl
theorem s_478 {S : Nat → Prop} : w_sh (w_G0 S) (478 : Int).toNat = some (.inr (3, 6)) := w_sh0_eq.trans s0_478
theorem s0_479 : w_sh0 (479 : Int).toNat = some (.inr (0, 9)) := rfl
theorem s_479 {S : Nat → Prop} : w_sh (w_G0 S) (479 : Int).toNat = some (.inr (0, 9)) := w_sh0_eq.trans s0_479
theorem s0_480 : w_sh0 (480 : Int).toNat = some (.inr (0, 300)) := rfl
theorem s_480 {S : Nat → Prop} : w_sh (w_G0 S) (480 : Int).toNat = some (.inr (0, 300)) := w_sh0_eq.trans s0_480
theorem s0_481 : w_sh0 (481 : Int).toNat = some (.inr (0, 7500)) := rfl
theorem s_481 {S : Nat → Prop} : w_sh (w_G0 S) (481 : Int).toNat = some (.inr (0, 7500)) := w_sh0_eq.trans s0_481
theorem s0_482 : w_sh0 (482 : Int).toNat = some (.inr (4, 47)) := rfl
theorem s_482 {S : Nat → Prop} : w_sh (w_G0 S) (482 : Int).toNat = some (.inr (4, 47)) := w_sh0_eq.trans s0_482
theorem s0_483 : w_sh0 (483 : Int).toNat = some (.inr (0, 200)) := rfl
theorem s_483 {S : Nat → Prop} : w_sh (w_G0 S) (483 : Int).toNat = some (.inr (0, 200)) := w_sh0_eq.trans s0_483
theorem s0_484 : w_sh0 (484 : Int).toNat = some (.inr (0, 200)) := rfl
theorem s_484 {S : Nat → Prop} : w_sh (w_G0 S) (484 : Int).toNat = some (.inr (0, 200)) := w_sh0_eq.trans s0_484
theorem s0_485 : w_sh0 (485 : Int).toNat = some (.inr (0, 201)) := rfl
theorem s_485 {S : Nat → Prop} : w_sh (w_G0 S) (485 : Int).toNat = some (.inr (0, 201)) := w_sh0_eq.trans s0_485
theorem s0_486 : w_sh0 (486 : Int).toNat = some (.inr (1, 50000)) := rfl
theorem s_486 {S : Nat → Prop} : w_sh (w_G0 S) (486 : Int).toNat = some (.inr (1, 50000)) := w_sh0_eq.trans s0_486
theorem s0_487 : w_sh0 (487 : Int).toNat = some (.inr (0, 4096)) := rfl
theorem s_487 {S : Nat → Prop} : w_sh (w_G0 S) (487 : Int).toNat = some (.inr (0, 4096)) := w_sh0_eq.trans s0_487
theorem s0_488 : w_sh0 (488 : Int).toNat = some (.inr (0, 57000)) := rfl
theorem s_488 {S : Nat → Prop} : w_sh (w_G0 S) (488 : Int).toNat = some (.inr (0, 57000)) := w_sh0_eq.trans s0_488
theorem s0_489 : w_sh0 (489 : Int).toNat = some (.inr (1, 1400)) := rfl
theorem s_489 {S : Nat → Prop} : w_sh (w_G0 S) (489 : Int).toNat = some (.inr (1, 1400)) := w_sh0_eq.trans s0_489
theorem s_352 {S : Nat → Prop} : w_sh (w_G0 S) (352 : Int).toNat = some (.inr (1, 19)) := w_sh0_eq.trans (rfl : w_sh0 (352 : Int).toNat = _)
theorem s_353 {S : Nat → Prop} : w_sh (w_G0 S) (353 : Int).toNat = some (.inr (0, 29)) := w_sh0_eq.trans (rfl : w_sh0 (353 : Int).toNat = _)
theorem s_354 {S : Nat → Prop} : w_sh (w_G0 S) (354 : Int).toNat = some (.inr (1, 29)) := w_sh0_eq.trans (rfl : w_sh0 (354 : Int).toNat = _)
theorem s_355 {S : Nat → Prop} : w_sh (w_G0 S) (355 : Int).toNat = some (.inr (0, 30)) := w_sh0_eq.trans (rfl : w_sh0 (355 : Int).toNat = _)
theorem s_356 {S : Nat → Prop} : w_sh (w_G0 S) (356 : Int).toNat = some (.inr (1, 30)) := w_sh0_eq.trans (rfl : w_sh0 (356 : Int).toNat = _)
/-- one of the two parsers -/
def w_isP (a : Int) : Prop := a = 376 ∨ a = 405
theorem s_P {S : Nat → Prop} {a : Int} (h : w_isP a) : w_sh (w_G0 S) a.toNat = some (.inl (5, [369, 375, 3, 0, 0, 0, 0, 0, 0, 0, 2, 0, 0, 0, 0, 2, 2, 0])) := by rcases h with rfl | rfl; exact s_376; exact s_405
theorem w_E {S : Nat → Prop} {a : Int} (h : 357 ≤ a) (hS : S a.toNat) : w_wr (w_G0 S) a.toNat := ⟨by show 357 ≤ a.toNat; omega, hS⟩
theorem w_EC {a : Int} (h : 357 ≤ a ∧ a < 428) : w_wr (w_G0 sC) a.toNat := w_E h.1 (by show a.toNat < 428; omega)
theorem w_EM {a : Int} (h : 428 ≤ a) : w_wr (w_G0 sM) a.toNat := w_E (by omega) (by show 428 ≤ a.toNat; omega)
theorem w_E1 {S : Nat → Prop} {a : Int} (h : 357 ≤ a) : (w_G0 S).1 ≤ a.toNat := by show 357 ≤ a.toNat; omega
theorem w_EP {a : Int} (h : w_isP a) : w_wr (w_G0 sC) a.toNat := w_EC (by rcases h with rfl | rfl <;> decide)
abbrev x_W (S : Nat → Prop) (d : Nat) (M : ex_M) (t pc : Nat) (lv : List (Option w_V)) (st : List w_V) (m : w_M) (Q : Int → w_M → Prop) : Prop := w_W (w_G0 S) d M t pc lv st m Q
abbrev x_C (S : Nat → Prop) (d k t : Nat) (as : List w_V) (m : w_M) (Q : Int → w_M → Prop) : Prop := w_C (w_G0 S) d k t as m Q
