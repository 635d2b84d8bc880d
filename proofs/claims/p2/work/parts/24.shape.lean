/-! ===== what stands: strings, static arrays, the cells behind both constructors (printed by program) ===== -/
/-- the strings: bytes, hash -/
def w_sl : List (List Int × Int) := [([37, 80, 68, 70, 45, 49, 46], 833159517),
  ([115, 116, 97, 114, 116, 120, 114, 101, 102], (-2128213891)),
  ([111, 98, 106], 109815),
  ([115, 116, 114, 101, 97, 109], (-891990144)),
  ([101, 110, 100, 111, 98, 106], (-1298746820)),
  ([37, 37, 69, 79, 70], 35341372),
  ([101, 110, 100, 115, 116, 114, 101, 97, 109], (-1769633765)),
  ([101, 110, 100, 111, 98, 106], (-1298746820)),
  ([116, 114, 117, 101], 3569038),
  ([102, 97, 108, 115, 101], 97196323),
  ([110, 117, 108, 108], 3392903),
  ([82], 82),
  ([111, 98, 106], 109815),
  ([120, 114, 101, 102], 3687707),
  ([115, 116, 114, 101, 97, 109], (-891990144)),
  ([116, 114, 97, 105, 108, 101, 114], (-1067215565)),
  ([84, 121, 112, 101, 32, 67, 97, 116, 97, 108, 111, 103, 32, 80, 97, 103, 101, 115, 32, 80, 97, 103, 101, 32, 75, 105, 100, 115, 32, 67, 111, 117, 110, 116, 32, 80, 97, 114, 101, 110, 116, 32, 77, 101, 100, 105, 97, 66, 111, 120, 32, 82, 101, 115, 111, 117, 114, 99, 101, 115, 32, 82, 111, 116, 97, 116, 101, 32, 67, 111, 110, 116, 101, 110, 116, 115, 32, 70, 111, 110, 116, 32, 70, 105, 114, 115, 116, 67, 104, 97, 114, 32, 76, 97, 115, 116, 67, 104, 97, 114, 32, 87, 105, 100, 116, 104, 115, 32, 84, 105, 116, 108, 101, 32, 65, 117, 116, 104, 111, 114, 32, 83, 117, 98, 106, 101, 99, 116, 32, 75, 101, 121, 119, 111, 114, 100, 115, 32, 76, 101, 110, 103, 116, 104, 32, 70, 105, 108, 116, 101, 114, 32, 68, 101, 99, 111, 100, 101, 80, 97, 114, 109, 115, 32, 70, 108, 97, 116, 101, 68, 101, 99, 111, 100, 101, 32, 65, 83, 67, 73, 73, 72, 101, 120, 68, 101, 99, 111, 100, 101, 32, 80, 114, 101, 100, 105, 99, 116, 111, 114, 32, 67, 111, 108, 117, 109, 110, 115, 32, 67, 111, 108, 111, 114, 115, 32, 66, 105, 116, 115, 80, 101, 114, 67, 111, 109, 112, 111, 110, 101, 110, 116, 32, 88, 82, 101, 102, 32, 87, 32, 73, 110, 100, 101, 120, 32, 83, 105, 122, 101, 32, 80, 114, 101, 118, 32, 69, 110, 99, 114, 121, 112, 116, 32, 88, 82, 101, 102, 83, 116, 109, 32, 82, 111, 111, 116, 32, 73, 110, 102, 111, 32, 79, 98, 106, 83, 116, 109, 32, 78, 32, 70, 105, 114, 115, 116, 32], 1881649247),
  ([47, 76, 101, 110, 103, 116, 104, 32], 2034824907),
  ([32, 47, 70, 105, 108, 116, 101, 114, 32, 47, 70, 108, 97, 116, 101, 68, 101, 99, 111, 100, 101, 32, 62, 62, 10, 115, 116, 114, 101, 97, 109, 10], 2129482268),
  ([10, 101, 110, 100, 115, 116, 114, 101, 97, 109], 560198481),
  ([115, 116, 97, 114, 116, 120, 114, 101, 102, 10], (-1550121171)),
  ([10, 37, 37, 69, 79, 70, 10], 1380684760),
  ([32, 110, 32, 10], 1060024),
  ([32, 111, 98, 106, 10], 32956947),
  ([60, 60, 32], 59552),
  ([10, 101, 110, 100, 111, 98, 106, 10], (-1358211580)),
  ([110, 117, 108, 108], 3392903),
  ([32, 82], 1074),
  ([32, 47, 82, 111, 111, 116, 32], (-239937361)),
  ([32, 47, 73, 110, 102, 111, 32], (-248287645)),
  ([32, 48, 32, 111, 98, 106, 10, 60, 60, 32, 47, 84, 121, 112, 101, 32, 47, 88, 82, 101, 102, 32, 47, 83, 105, 122, 101, 32], (-529698918)),
  ([32, 47, 87, 32, 91, 32, 49, 32, 52, 32, 50, 32, 93, 32, 47, 73, 110, 100, 101, 120, 32, 91, 32], 1895516217),
  ([32, 47, 80, 114, 101, 118, 32], (-241704578)),
  ([32], 32),
  ([120, 114, 101, 102, 10], 114318927),
  ([48, 48, 48, 48, 48, 48, 48, 48, 48, 48, 32, 54, 53, 53, 51, 53, 32, 102, 32, 10], 725339848),
  ([48, 32, 48, 10, 116, 114, 97, 105, 108, 101, 114, 10, 60, 60, 32, 47, 83, 105, 122, 101, 32], (-902283249)),
  ([116, 114, 97, 105, 108, 101, 114, 10, 60, 60, 32, 47, 83, 105, 122, 101, 32], 1001013913),
  ([32, 62, 62, 10], 1014826),
  ([116, 114, 117, 101], 3569038),
  ([102, 97, 108, 115, 101], 97196323),
  ([91, 32], 2853),
  ([93], 93),
  ([62, 62], 1984),
  ([37, 80, 68, 70, 45, 49, 46, 55, 10], 1802380496),
  ([120, 114, 101, 102, 10, 48, 32], (-1808659329)),
  ([10, 48, 48, 48, 48, 48, 48, 48, 48, 48, 48, 32, 54, 53, 53, 51, 53, 32, 102, 32, 10], (-1456118318)),
  ([113], 113),
  ([81], 81),
  ([66, 84], 2130),
  ([69, 84], 2223),
  ([84, 42], 2646),
  ([99, 109], 3178),
  ([84, 109], 2713),
  ([84, 100], 2704),
  ([84, 68], 2672),
  ([84, 99], 2703),
  ([84, 119], 2723),
  ([84, 76], 2680),
  ([84, 102], 2706),
  ([84, 106], 2710),
  ([39], 39),
  ([84, 74], 2678),
  ([109], 109),
  ([108], 108),
  ([99], 99),
  ([118], 118),
  ([121], 121),
  ([114, 101], 3635),
  ([107], 107),
  ([75], 75),
  ([104], 104),
  ([83], 83),
  ([115], 115),
  ([102], 102),
  ([70], 70),
  ([102, 42], 3204),
  ([66], 66),
  ([66, 42], 2088),
  ([98], 98),
  ([98, 42], 3080),
  ([110], 110),
  ([87], 87),
  ([87, 42], 2739),
  ([119], 119),
  ([74], 74),
  ([106], 106),
  ([77], 77),
  ([105], 105),
  ([103], 103),
  ([71], 71),
  ([114, 103], 3637),
  ([82, 71], 2613),
  ([100], 100),
  ([67, 111, 110, 116, 101, 110, 116, 115], (-502677702)),
  ([67, 111, 117, 110, 116], 65298671),
  ([70, 105, 108, 116, 101, 114], 2104342424),
  ([37, 37, 69, 79, 70], 35341372),
  ([73, 110, 100, 101, 120], 70793394),
  ([83, 105, 122, 101], 2577441),
  ([76, 101, 110, 103, 116, 104], (-2022496506)),
  ([68, 101, 99, 111, 100, 101, 80, 97, 114, 109, 115], (-1448065895)),
  ([70, 108, 97, 116, 101, 68, 101, 99, 111, 100, 101], 1578622202),
  ([65, 83, 67, 73, 73, 72, 101, 120, 68, 101, 99, 111, 100, 101], (-1002766152)),
  ([80, 114, 101, 100, 105, 99, 116, 111, 114], 655954012),
  ([67, 111, 108, 117, 109, 110, 115], (-1680592963)),
  ([115, 116, 97, 114, 116, 120, 114, 101, 102, 10], (-1550121171)),
  ([10, 37, 37, 69, 79, 70, 10], 1380684760),
  ([70, 111, 110, 116], 2195567),
  ([84, 121, 112, 101], 2622298),
  ([70, 105, 114, 115, 116, 67, 104, 97, 114], 2136482310),
  ([76, 97, 115, 116, 67, 104, 97, 114], (-1395277012)),
  ([87, 105, 100, 116, 104, 115], (-1704167539)),
  ([111, 98, 106], 109815),
  ([84, 105, 116, 108, 101], 80818744),
  ([65, 117, 116, 104, 111, 114], 1972506027),
  ([83, 117, 98, 106, 101, 99, 116], (-203231988)),
  ([75, 101, 121, 119, 111, 114, 100, 115], 587793354),
  ([80, 97, 103, 101], 2479791),
  ([80, 97, 114, 101, 110, 116], (-1911556918)),
  ([77, 101, 100, 105, 97, 66, 111, 120], (-836157593)),
  ([67, 111, 108, 111, 114, 115], 2023991696),
  ([66, 105, 116, 115, 80, 101, 114, 67, 111, 109, 112, 111, 110, 101, 110, 116], (-1838620506)),
  ([75, 105, 100, 115], 2338445),
  ([47, 82, 111, 111, 116, 32], 1424715919),
  ([47, 73, 110, 102, 111, 32], 1416365635),
  ([47, 80, 114, 101, 118, 32], 1422948702),
  ([80, 97, 103, 101, 115], 76873636),
  ([82, 101, 115, 111, 117, 114, 99, 101, 115], 20897285),
  ([82, 111, 116, 97, 116, 101], (-1841313413)),
  ([32, 111, 98, 106, 10], 32956947),
  ([60, 60, 32], 59552),
  ([10, 101, 110, 100, 111, 98, 106, 10], (-1358211580)),
  ([110, 117, 108, 108], 3392903),
  ([116, 114, 117, 101], 3569038),
  ([102, 97, 108, 115, 101], 97196323),
  ([115, 116, 114, 101, 97, 109], (-891990144)),
  ([101, 110, 100, 111, 98, 106], (-1298746820)),
  ([37, 80, 68, 70, 45, 49, 46], 833159517),
  ([115, 116, 97, 114, 116, 120, 114, 101, 102], (-2128213891)),
  ([79, 98, 106, 83, 116, 109], (-1939517995)),
  ([78], 78),
  ([70, 105, 114, 115, 116], 67887760),
  ([32, 48, 32, 111, 98, 106, 10, 60, 60, 32, 47, 84, 121, 112, 101, 32, 47, 88, 82, 101, 102, 32, 47, 83, 105, 122, 101, 32], (-529698918)),
  ([32, 47, 87, 32, 91, 32, 49, 32, 52, 32, 50, 32, 93, 32, 47, 73, 110, 100, 101, 120, 32, 91, 32], 1895516217),
  ([32, 49, 32], 32303),
  ([93, 32], 2915),
  ([88, 82, 101, 102], 2703643),
  ([32, 110, 32, 10], 1060024),
  ([32, 82], 1074),
  ([120, 114, 101, 102], 3687707),
  ([69, 110, 99, 114, 121, 112, 116], 57395781),
  ([88, 82, 101, 102, 83, 116, 109], (-1060066543)),
  ([80, 114, 101, 118], 2496083),
  ([101, 110, 100, 115, 116, 114, 101, 97, 109], (-1769633765)),
  ([47, 76, 101, 110, 103, 116, 104, 32], 2034824907),
  ([32, 47, 70, 105, 108, 116, 101, 114, 32, 47, 70, 108, 97, 116, 101, 68, 101, 99, 111, 100, 101, 32, 62, 62, 10, 115, 116, 114, 101, 97, 109, 10], 2129482268),
  ([10, 101, 110, 100, 115, 116, 114, 101, 97, 109], 560198481),
  ([116, 114, 97, 105, 108, 101, 114], (-1067215565)),
  ([120, 114, 101, 102, 10], 114318927),
  ([48, 48, 48, 48, 48, 48, 48, 48, 48, 48, 32, 54, 53, 53, 51, 53, 32, 102, 32, 10], 725339848),
  ([48, 32, 48, 10], 1462218),
  ([116, 114, 97, 105, 108, 101, 114, 10, 60, 60, 32, 47, 83, 105, 122, 101, 32], 1001013913),
  ([62, 62, 10], 61514),
  ([82, 111, 111, 116], 2553090),
  ([73, 110, 102, 111], 2283726),
  ([67, 97, 116, 97, 108, 111, 103], (-2074609671)),
  ([37, 80, 68, 70, 45, 49, 46, 55, 10], 1802380496),
  ([120, 114, 101, 102, 10, 48, 32], (-1808659329)),
  ([10, 48, 48, 48, 48, 48, 48, 48, 48, 48, 48, 32, 54, 53, 53, 51, 53, 32, 102, 32, 10], (-1456118318)),
  ([32, 47, 82, 111, 111, 116, 32, 49, 32, 48, 32, 82, 32], 621417468),
  ([82], 82),
  ([], 0),
  ([91, 32], 2853),
  ([62, 62], 1984)]
def w_ORDER : List Int := [16, 17, 18, 0, 8, 7, 9, 6, 10, 5, 11, 4, 12, 3, 13, 2, 14, 1, 15]
def w_LENGTHS : List Int := [3, 4, 5, 6, 7, 8, 9, 10, 11, 13, 15, 17, 19, 23, 27, 31, 35, 43, 51, 59, 67, 83, 99, 115, 131, 163, 195, 227, 258]
def w_LENGTH_BITS : List Int := [0, 0, 0, 0, 0, 0, 0, 0, 1, 1, 1, 1, 2, 2, 2, 2, 3, 3, 3, 3, 4, 4, 4, 4, 5, 5, 5, 5, 0]
def w_DISTANCES : List Int := [1, 2, 3, 4, 5, 7, 9, 13, 17, 25, 33, 49, 65, 97, 129, 193, 257, 385, 513, 769, 1025, 1537, 2049, 3073, 4097, 6145, 8193, 12289, 16385, 24577]
def w_DISTANCE_BITS : List Int := [0, 0, 0, 0, 1, 1, 2, 2, 3, 3, 4, 4, 5, 5, 6, 6, 7, 7, 8, 8, 9, 9, 10, 10, 11, 11, 12, 12, 13, 13]
def w_xm : w_M := fun i j => if i < 350 then (match w_sl[i.toNat / 2]? with
  | some q => if i.toNat % 2 = 0 then (if j = 2 then q.2 else if j = 3 then (if q.2 = 0 then 1 else 0) else 0) else q.1.getD j.toNat 0
  | none => 0) else if i = 352 then w_ORDER.getD j.toNat 0 else if i = 353 then w_LENGTHS.getD j.toNat 0 else if i = 354 then w_LENGTH_BITS.getD j.toNat 0 else if i = 355 then w_DISTANCES.getD j.toNat 0 else if i = 356 then w_DISTANCE_BITS.getD j.toNat 0 else 0
def w_shx (i : Nat) : Option w_S := if i < 350 then (match w_sl[i / 2]? with
  | some q => if i % 2 = 0 then some (.inl (13, [i + 11, 0, 0, 2])) else some (.inr (1, q.1.length))
  | none => none) else if i = 352 then some (.inr (1, 19)) else if i = 353 then some (.inr (0, 29)) else if i = 354 then some (.inr (1, 29)) else if i = 355 then some (.inr (0, 30)) else if i = 356 then some (.inr (1, 30)) else none
def w_shL : List w_S := [.inl (11, [368, 0, 369, 376, 386, 401, 404, 409, 414, 427, 428, 437, 0, 0, 2, 0, 0, 0, 0]),
  .inr (1, 8000),
  .inl (7, [370, 371, 372, 373, 374, 375, 0, 0, 0]),
  .inr (0, 16564),
  .inr (0, 16564),
  .inr (0, 16564),
  .inr (0, 16564),
  .inr (0, 16564),
  .inr (1, 108612),
  .inl (8, [369, 377, 378, 379, 380, 381, 382, 383, 384, 385, 0, 0, 0, 0, 0]),
  .inr (0, 200),
  .inr (0, 200),
  .inr (0, 200),
  .inr (0, 200),
  .inr (0, 200),
  .inr (0, 200),
  .inr (2, 200),
  .inr (2, 200),
  .inr (1, 40000),
  .inl (5, [369, 375, 3, 0, 0, 0, 0, 0, 0, 0, 2, 0, 0, 0, 0, 2, 2, 0]),
  .inr (1, 0),
  .inl (1, [369, 389, 397, 398, 399, 400, 0, 3, 0]),
  .inl (2, [390, 391, 392, 393, 394, 395, 3, 0, 0, 3, 0, 0, 0, 0, 0]),
  .inr (0, 320),
  .inr (0, 16),
  .inr (0, 288),
  .inr (0, 16),
  .inr (0, 32),
  .inr (0, 16),
  .inr (1, 0),
  .inr (1, 8000),
  .inr (1, 8000),
  .inr (2, 3),
  .inr (0, 3),
  .inl (6, [386, 369, 376, 388, 402, 403, 0, 0, 0, 0, 2, 0, 0]),
  .inr (0, 10),
  .inr (0, 3),
  .inl (3, [405, 0, 386, 369, 376, 388, 406, 407, 408, 0]),
  .inr (1, 8000),
  .inr (0, 200),
  .inr (0, 200),
  .inr (0, 200),
  .inl (9, [386, 376, 369, 410, 411, 412, 413, 0, 0]),
  .inr (0, 60),
  .inr (0, 200),
  .inr (2, 200),
  .inr (1, 0),
  .inl (4, [376, 369, 409, 415, 417, 418, 419, 420, 421, 422, 423, 424, 425, 426, 0, 0, 2, 0, 0]),
  .inl (5, [369, 375, 3, 0, 0, 0, 0, 0, 0, 0, 2, 0, 0, 0, 0, 2, 2, 0]),
  .inr (1, 0),
  .inr (1, 40000),
  .inr (0, 12),
  .inr (0, 240),
  .inr (0, 6),
  .inr (0, 6),
  .inr (0, 6),
  .inr (0, 6),
  .inr (0, 256),
  .inr (0, 40),
  .inr (0, 7500),
  .inl (0, [376, 369, 409]),
  .inl (10, [376, 369, 429, 0, 2, 2, 430, 431, 432, 0, 433, 434, 0, 0, 0, 435, 436, 0]),
  .inr (1, 30000),
  .inr (0, 200),
  .inr (0, 200),
  .inr (0, 200),
  .inr (1, 1400),
  .inr (1, 9216),
  .inr (0, 4096),
  .inr (0, 8000),
  .inr (0, 25),
  .inl (12, [439, 0, 440, 0, 441, 0, 2, 442, 443, 444, 445, 446, 447, 448, 449, 0, 450, 0, 3, 0, 0, 0, 0, 0, 0, 2, 0, 0, 0, 0, 0, 0, 2, 451, 0, 452, 453, 0, 0, 0, 2, 454, 455, 456, 457, 458, 459, 460, 461, 462, 463, 464, 465, 466, 467, 468, 469, 470, 471, 472, 0, 0, 473, 2, 0, 0, 0, 0, 0, 0, 0, 0, 474, 475, 476, 0, 477, 0, 1, 0, 0, 0, 0, 0, 0, 478, 479, 480, 0, 0, 481, 482, 0, 483, 0, 484, 485, 486, 487, 488, 489, 490, 0, 2, 0, 491, 0, 0, 492, 2, 493, 494, 0, 495, 496, 0, 0, 497, 498, 499, 0]),
  .inr (1, 8000),
  .inr (1, 8000),
  .inr (1, 30100),
  .inr (1, 40000),
  .inr (0, 40000),
  .inr (0, 40000),
  .inr (0, 40000),
  .inr (0, 40000),
  .inr (0, 40000),
  .inr (0, 40000),
  .inr (0, 40000),
  .inr (1, 150000),
  .inr (1, 57000),
  .inr (1, 8200),
  .inr (1, 8200),
  .inr (0, 320),
  .inr (0, 16),
  .inr (0, 288),
  .inr (0, 16),
  .inr (0, 32),
  .inr (0, 16),
  .inr (0, 340),
  .inr (1, 200),
  .inr (3, 200),
  .inr (3, 200),
  .inr (2, 200),
  .inr (0, 200),
  .inr (1, 200),
  .inr (2, 200),
  .inr (0, 200),
  .inr (0, 200),
  .inr (2, 200),
  .inr (2, 200),
  .inr (2, 200),
  .inr (3, 12),
  .inr (1, 200),
  .inr (3, 200),
  .inr (3, 200),
  .inr (0, 3),
  .inr (0, 61),
  .inr (0, 200),
  .inr (2, 200),
  .inr (0, 26),
  .inr (1, 40100),
  .inr (0, 40),
  .inr (0, 6),
  .inr (0, 6),
  .inr (0, 6),
  .inr (0, 6),
  .inr (3, 6),
  .inr (0, 9),
  .inr (0, 300),
  .inr (0, 7500),
  .inr (4, 47),
  .inr (0, 200),
  .inr (0, 200),
  .inr (0, 201),
  .inr (1, 50000),
  .inr (0, 4096),
  .inr (0, 57000),
  .inr (1, 1400)]
def ex_strs : List (String × Nat × Nat × String) := [("PaperHouse$Loader", 82, 0, "%PDF-1."), ("PaperHouse$Loader", 102, 2, "startxref"), ("PaperHouse$Loader", 174, 4, "obj"), ("PaperHouse$Loader", 183, 6, "stream"), ("PaperHouse$Loader", 188, 8, "endobj"), ("PaperHouse$Loader", 121, 10, "%%EOF"), ("PaperHouse$Parser", 152, 12, "endstream"), ("PaperHouse$Parser", 157, 14, "endobj"), ("PaperHouse$Parser", 148, 16, "true"), ("PaperHouse$Parser", 150, 18, "false"), ("PaperHouse$Parser", 146, 20, "null"), ("PaperHouse$Parser", 186, 22, "R"), ("PaperHouse$Sections", 155, 24, "obj"), ("PaperHouse$Sections", 68, 26, "xref"), ("PaperHouse$Sections", 157, 28, "stream"), ("PaperHouse$Sections", 113, 30, "trailer"), ("PaperHouse$Store", 40, 32, "Type Catalog Pages Page Kids Count Parent MediaBox Resources Rotate Contents Font FirstChar LastChar Widths Title Author Subject Keywords Length Filter DecodeParms FlateDecode ASCIIHexDecode Predictor Columns Colors BitsPerComponent XRef W Index Size Prev Encrypt XRefStm Root Info ObjStm N First "), ("PaperHouse$Writer", 284, 34, "/Length "), ("PaperHouse$Writer", 289, 36, " /Filter /FlateDecode >>\nstream\n"), ("PaperHouse$Writer", 291, 38, "\nendstream"), ("PaperHouse$Writer", 150, 40, "startxref\n"), ("PaperHouse$Writer", 152, 42, "\n%%EOF\n"), ("PaperHouse$Writer", 316, 44, " n \n"), ("PaperHouse$Writer", 205, 46, " obj\n"), ("PaperHouse$Writer", 219, 48, "<< "), ("PaperHouse$Writer", 202, 50, "\nendobj\n"), ("PaperHouse$Writer", 261, 52, "null"), ("PaperHouse$Writer", 162, 54, " R"), ("PaperHouse$Writer", 154, 56, " /Root "), ("PaperHouse$Writer", 160, 58, " /Info "), ("PaperHouse$Writer", 186, 60, " 0 obj\n<< /Type /XRef /Size "), ("PaperHouse$Writer", 188, 62, " /W [ 1 4 2 ] /Index [ "), ("PaperHouse$Writer", 184, 64, " /Prev "), ("PaperHouse$Writer", 197, 66, " "), ("PaperHouse$Writer", 174, 68, "xref\n"), ("PaperHouse$Writer", 180, 70, "0000000000 65535 f \n"), ("PaperHouse$Writer", 182, 72, "0 0\ntrailer\n<< /Size "), ("PaperHouse$Writer", 110, 74, "trailer\n<< /Size "), ("PaperHouse$Writer", 115, 76, " >>\n"), ("PaperHouse$Writer", 239, 78, "true"), ("PaperHouse$Writer", 241, 80, "false"), ("PaperHouse$Writer", 252, 82, "[ "), ("PaperHouse$Writer", 254, 84, "]"), ("PaperHouse$Writer", 256, 86, ">>"), ("PaperHouse$Writer", 78, 88, "%PDF-1.7\n"), ("PaperHouse$Writer", 98, 90, "xref\n0 "), ("PaperHouse$Writer", 104, 92, "\n0000000000 65535 f \n"), ("PaperHouseModel", 182, 94, "q"), ("PaperHouseModel", 184, 96, "Q"), ("PaperHouseModel", 186, 98, "BT"), ("PaperHouseModel", 188, 100, "ET"), ("PaperHouseModel", 190, 102, "T*"), ("PaperHouseModel", 192, 104, "cm"), ("PaperHouseModel", 194, 106, "Tm"), ("PaperHouseModel", 196, 108, "Td"), ("PaperHouseModel", 198, 110, "TD"), ("PaperHouseModel", 200, 112, "Tc"), ("PaperHouseModel", 202, 114, "Tw"), ("PaperHouseModel", 204, 116, "TL"), ("PaperHouseModel", 206, 118, "Tf"), ("PaperHouseModel", 208, 120, "Tj"), ("PaperHouseModel", 210, 122, "'"), ("PaperHouseModel", 212, 124, "TJ"), ("PaperHouseModel", 214, 126, "m"), ("PaperHouseModel", 216, 128, "l"), ("PaperHouseModel", 218, 130, "c"), ("PaperHouseModel", 220, 132, "v"), ("PaperHouseModel", 222, 134, "y"), ("PaperHouseModel", 224, 136, "re"), ("PaperHouseModel", 226, 138, "k"), ("PaperHouseModel", 228, 140, "K"), ("PaperHouseModel", 230, 142, "h"), ("PaperHouseModel", 232, 144, "S"), ("PaperHouseModel", 234, 146, "s"), ("PaperHouseModel", 236, 148, "f"), ("PaperHouseModel", 238, 150, "F"), ("PaperHouseModel", 240, 152, "f*"), ("PaperHouseModel", 242, 154, "B"), ("PaperHouseModel", 244, 156, "B*"), ("PaperHouseModel", 246, 158, "b"), ("PaperHouseModel", 248, 160, "b*"), ("PaperHouseModel", 250, 162, "n"), ("PaperHouseModel", 252, 164, "W"), ("PaperHouseModel", 254, 166, "W*"), ("PaperHouseModel", 256, 168, "w"), ("PaperHouseModel", 258, 170, "J"), ("PaperHouseModel", 260, 172, "j"), ("PaperHouseModel", 262, 174, "M"), ("PaperHouseModel", 264, 176, "i"), ("PaperHouseModel", 266, 178, "g"), ("PaperHouseModel", 268, 180, "G"), ("PaperHouseModel", 270, 182, "rg"), ("PaperHouseModel", 272, 184, "RG"), ("PaperHouseModel", 274, 186, "d"), ("PaperHouseModel", 873, 188, "Contents"), ("PaperHouseModel", 865, 190, "Count"), ("PaperHouseModel", 505, 192, "Filter"), ("PaperHouseModel", 675, 194, "%%EOF"), ("PaperHouseModel", 754, 196, "Index"), ("PaperHouseModel", 696, 198, "Size"), ("PaperHouseModel", 736, 200, "Length"), ("PaperHouseModel", 522, 202, "DecodeParms"), ("PaperHouseModel", 514, 204, "FlateDecode"), ("PaperHouseModel", 520, 206, "ASCIIHexDecode"), ("PaperHouseModel", 539, 208, "Predictor"), ("PaperHouseModel", 545, 210, "Columns"), ("PaperHouseModel", 1163, 212, "startxref\n"), ("PaperHouseModel", 1165, 214, "\n%%EOF\n"), ("PaperHouseModel", 988, 216, "Font"), ("PaperHouseModel", 732, 218, "Type"), ("PaperHouseModel", 990, 220, "FirstChar"), ("PaperHouseModel", 992, 222, "LastChar"), ("PaperHouseModel", 994, 224, "Widths"), ("PaperHouseModel", 759, 226, "obj"), ("PaperHouseModel", 1051, 228, "Title"), ("PaperHouseModel", 1053, 230, "Author"), ("PaperHouseModel", 1055, 232, "Subject"), ("PaperHouseModel", 1057, 234, "Keywords"), ("PaperHouseModel", 834, 236, "Page"), ("PaperHouseModel", 836, 238, "Parent"), ("PaperHouseModel", 847, 240, "MediaBox"), ("PaperHouseModel", 550, 242, "Colors"), ("PaperHouseModel", 552, 244, "BitsPerComponent"), ("PaperHouseModel", 863, 246, "Kids"), ("PaperHouseModel", 1198, 248, "/Root "), ("PaperHouseModel", 1185, 250, "/Info "), ("PaperHouseModel", 1200, 252, "/Prev "), ("PaperHouseModel", 823, 254, "Pages"), ("PaperHouseModel", 849, 256, "Resources"), ("PaperHouseModel", 851, 258, "Rotate"), ("PaperHouseModel", 1151, 260, " obj\n"), ("PaperHouseModel", 1103, 262, "<< "), ("PaperHouseModel", 1159, 264, "\nendobj\n"), ("PaperHouseModel", 459, 266, "null"), ("PaperHouseModel", 465, 268, "true"), ("PaperHouseModel", 467, 270, "false"), ("PaperHouseModel", 761, 272, "stream"), ("PaperHouseModel", 745, 274, "endobj"), ("PaperHouseModel", 654, 276, "%PDF-1."), ("PaperHouseModel", 659, 278, "startxref"), ("PaperHouseModel", 781, 280, "ObjStm"), ("PaperHouseModel", 783, 282, "N"), ("PaperHouseModel", 785, 284, "First"), ("PaperHouseModel", 1217, 286, " 0 obj\n<< /Type /XRef /Size "), ("PaperHouseModel", 1219, 288, " /W [ 1 4 2 ] /Index [ "), ("PaperHouseModel", 1227, 290, " 1 "), ("PaperHouseModel", 1229, 292, "] "), ("PaperHouseModel", 734, 294, "XRef"), ("PaperHouseModel", 1161, 296, " n \n"), ("PaperHouseModel", 1083, 298, " R"), ("PaperHouseModel", 684, 300, "xref"), ("PaperHouseModel", 692, 302, "Encrypt"), ("PaperHouseModel", 694, 304, "XRefStm"), ("PaperHouseModel", 698, 306, "Prev"), ("PaperHouseModel", 763, 308, "endstream"), ("PaperHouseModel", 1145, 310, "/Length "), ("PaperHouseModel", 1147, 312, " /Filter /FlateDecode >>\nstream\n"), ("PaperHouseModel", 1149, 314, "\nendstream"), ("PaperHouseModel", 722, 316, "trailer"), ("PaperHouseModel", 1202, 318, "xref\n"), ("PaperHouseModel", 1207, 320, "0000000000 65535 f \n"), ("PaperHouseModel", 1209, 322, "0 0\n"), ("PaperHouseModel", 1181, 324, "trailer\n<< /Size "), ("PaperHouseModel", 1187, 326, ">>\n"), ("PaperHouseModel", 802, 328, "Root"), ("PaperHouseModel", 807, 330, "Info"), ("PaperHouseModel", 821, 332, "Catalog"), ("PaperHouseModel", 1167, 334, "%PDF-1.7\n"), ("PaperHouseModel", 1173, 336, "xref\n0 "), ("PaperHouseModel", 1175, 338, "\n0000000000 65535 f \n"), ("PaperHouseModel", 1183, 340, " /Root 1 0 R "), ("PaperHouseModel", 489, 342, "R"), ("PaperHouseModel", 952, 344, ""), ("PaperHouseModel", 1098, 346, "[ "), ("PaperHouseModel", 1108, 348, ">>")]
def ex_stats : List (String × String × String × Value) := [("java/lang/String", "COMPACT_STRINGS", "Z", .int 1), ("jdk/internal/util/Preconditions", "SIOOBE_FORMATTER", "Ljava/util/function/BiFunction;", .retAddr 0), ("PaperHouse$Inflate", "ORDER", "[B", .ref 352), ("PaperHouse$Inflate", "LENGTHS", "[I", .ref 353), ("PaperHouse$Inflate", "LENGTH_BITS", "[B", .ref 354), ("PaperHouse$Inflate", "DISTANCES", "[I", .ref 355), ("PaperHouse$Inflate", "DISTANCE_BITS", "[B", .ref 356)]
noncomputable def w_G0 : w_G := (357, w_shx, w_xm, w_shL, 1123657, ex_P0, ex_strs, ex_stats)
theorem s_357 : w_sh w_G0 (357 : Int).toNat = some (.inl (11, [368, 0, 369, 376, 386, 401, 404, 409, 414, 427, 428, 437, 0, 0, 2, 0, 0, 0, 0])) := rfl
theorem s_358 : w_sh w_G0 (358 : Int).toNat = some (.inr (1, 8000)) := rfl
theorem s_359 : w_sh w_G0 (359 : Int).toNat = some (.inl (7, [370, 371, 372, 373, 374, 375, 0, 0, 0])) := rfl
theorem s_360 : w_sh w_G0 (360 : Int).toNat = some (.inr (0, 16564)) := rfl
theorem s_361 : w_sh w_G0 (361 : Int).toNat = some (.inr (0, 16564)) := rfl
theorem s_362 : w_sh w_G0 (362 : Int).toNat = some (.inr (0, 16564)) := rfl
theorem s_363 : w_sh w_G0 (363 : Int).toNat = some (.inr (0, 16564)) := rfl
theorem s_364 : w_sh w_G0 (364 : Int).toNat = some (.inr (0, 16564)) := rfl
theorem s_365 : w_sh w_G0 (365 : Int).toNat = some (.inr (1, 108612)) := rfl
theorem s_366 : w_sh w_G0 (366 : Int).toNat = some (.inl (8, [369, 377, 378, 379, 380, 381, 382, 383, 384, 385, 0, 0, 0, 0, 0])) := rfl
theorem s_367 : w_sh w_G0 (367 : Int).toNat = some (.inr (0, 200)) := rfl
theorem s_368 : w_sh w_G0 (368 : Int).toNat = some (.inr (0, 200)) := rfl
theorem s_369 : w_sh w_G0 (369 : Int).toNat = some (.inr (0, 200)) := rfl
theorem s_370 : w_sh w_G0 (370 : Int).toNat = some (.inr (0, 200)) := rfl
theorem s_371 : w_sh w_G0 (371 : Int).toNat = some (.inr (0, 200)) := rfl
theorem s_372 : w_sh w_G0 (372 : Int).toNat = some (.inr (0, 200)) := rfl
theorem s_373 : w_sh w_G0 (373 : Int).toNat = some (.inr (2, 200)) := rfl
theorem s_374 : w_sh w_G0 (374 : Int).toNat = some (.inr (2, 200)) := rfl
theorem s_375 : w_sh w_G0 (375 : Int).toNat = some (.inr (1, 40000)) := rfl
theorem s_376 : w_sh w_G0 (376 : Int).toNat = some (.inl (5, [369, 375, 3, 0, 0, 0, 0, 0, 0, 0, 2, 0, 0, 0, 0, 2, 2, 0])) := rfl
theorem s_377 : w_sh w_G0 (377 : Int).toNat = some (.inr (1, 0)) := rfl
theorem s_378 : w_sh w_G0 (378 : Int).toNat = some (.inl (1, [369, 389, 397, 398, 399, 400, 0, 3, 0])) := rfl
theorem s_379 : w_sh w_G0 (379 : Int).toNat = some (.inl (2, [390, 391, 392, 393, 394, 395, 3, 0, 0, 3, 0, 0, 0, 0, 0])) := rfl
theorem s_380 : w_sh w_G0 (380 : Int).toNat = some (.inr (0, 320)) := rfl
theorem s_381 : w_sh w_G0 (381 : Int).toNat = some (.inr (0, 16)) := rfl
theorem s_382 : w_sh w_G0 (382 : Int).toNat = some (.inr (0, 288)) := rfl
theorem s_383 : w_sh w_G0 (383 : Int).toNat = some (.inr (0, 16)) := rfl
theorem s_384 : w_sh w_G0 (384 : Int).toNat = some (.inr (0, 32)) := rfl
theorem s_385 : w_sh w_G0 (385 : Int).toNat = some (.inr (0, 16)) := rfl
theorem s_386 : w_sh w_G0 (386 : Int).toNat = some (.inr (1, 0)) := rfl
theorem s_387 : w_sh w_G0 (387 : Int).toNat = some (.inr (1, 8000)) := rfl
theorem s_388 : w_sh w_G0 (388 : Int).toNat = some (.inr (1, 8000)) := rfl
theorem s_389 : w_sh w_G0 (389 : Int).toNat = some (.inr (2, 3)) := rfl
theorem s_390 : w_sh w_G0 (390 : Int).toNat = some (.inr (0, 3)) := rfl
theorem s_391 : w_sh w_G0 (391 : Int).toNat = some (.inl (6, [386, 369, 376, 388, 402, 403, 0, 0, 0, 0, 2, 0, 0])) := rfl
theorem s_392 : w_sh w_G0 (392 : Int).toNat = some (.inr (0, 10)) := rfl
theorem s_393 : w_sh w_G0 (393 : Int).toNat = some (.inr (0, 3)) := rfl
theorem s_394 : w_sh w_G0 (394 : Int).toNat = some (.inl (3, [405, 0, 386, 369, 376, 388, 406, 407, 408, 0])) := rfl
theorem s_395 : w_sh w_G0 (395 : Int).toNat = some (.inr (1, 8000)) := rfl
theorem s_396 : w_sh w_G0 (396 : Int).toNat = some (.inr (0, 200)) := rfl
theorem s_397 : w_sh w_G0 (397 : Int).toNat = some (.inr (0, 200)) := rfl
theorem s_398 : w_sh w_G0 (398 : Int).toNat = some (.inr (0, 200)) := rfl
theorem s_399 : w_sh w_G0 (399 : Int).toNat = some (.inl (9, [386, 376, 369, 410, 411, 412, 413, 0, 0])) := rfl
theorem s_400 : w_sh w_G0 (400 : Int).toNat = some (.inr (0, 60)) := rfl
theorem s_401 : w_sh w_G0 (401 : Int).toNat = some (.inr (0, 200)) := rfl
theorem s_402 : w_sh w_G0 (402 : Int).toNat = some (.inr (2, 200)) := rfl
theorem s_403 : w_sh w_G0 (403 : Int).toNat = some (.inr (1, 0)) := rfl
theorem s_404 : w_sh w_G0 (404 : Int).toNat = some (.inl (4, [376, 369, 409, 415, 417, 418, 419, 420, 421, 422, 423, 424, 425, 426, 0, 0, 2, 0, 0])) := rfl
theorem s_405 : w_sh w_G0 (405 : Int).toNat = some (.inl (5, [369, 375, 3, 0, 0, 0, 0, 0, 0, 0, 2, 0, 0, 0, 0, 2, 2, 0])) := rfl
theorem s_406 : w_sh w_G0 (406 : Int).toNat = some (.inr (1, 0)) := rfl
theorem s_407 : w_sh w_G0 (407 : Int).toNat = some (.inr (1, 40000)) := rfl
theorem s_408 : w_sh w_G0 (408 : Int).toNat = some (.inr (0, 12)) := rfl
theorem s_409 : w_sh w_G0 (409 : Int).toNat = some (.inr (0, 240)) := rfl
theorem s_410 : w_sh w_G0 (410 : Int).toNat = some (.inr (0, 6)) := rfl
theorem s_411 : w_sh w_G0 (411 : Int).toNat = some (.inr (0, 6)) := rfl
theorem s_412 : w_sh w_G0 (412 : Int).toNat = some (.inr (0, 6)) := rfl
theorem s_413 : w_sh w_G0 (413 : Int).toNat = some (.inr (0, 6)) := rfl
theorem s_414 : w_sh w_G0 (414 : Int).toNat = some (.inr (0, 256)) := rfl
theorem s_415 : w_sh w_G0 (415 : Int).toNat = some (.inr (0, 40)) := rfl
theorem s_416 : w_sh w_G0 (416 : Int).toNat = some (.inr (0, 7500)) := rfl
theorem s_417 : w_sh w_G0 (417 : Int).toNat = some (.inl (0, [376, 369, 409])) := rfl
theorem s_418 : w_sh w_G0 (418 : Int).toNat = some (.inl (10, [376, 369, 429, 0, 2, 2, 430, 431, 432, 0, 433, 434, 0, 0, 0, 435, 436, 0])) := rfl
theorem s_419 : w_sh w_G0 (419 : Int).toNat = some (.inr (1, 30000)) := rfl
theorem s_420 : w_sh w_G0 (420 : Int).toNat = some (.inr (0, 200)) := rfl
theorem s_421 : w_sh w_G0 (421 : Int).toNat = some (.inr (0, 200)) := rfl
theorem s_422 : w_sh w_G0 (422 : Int).toNat = some (.inr (0, 200)) := rfl
theorem s_423 : w_sh w_G0 (423 : Int).toNat = some (.inr (1, 1400)) := rfl
theorem s_424 : w_sh w_G0 (424 : Int).toNat = some (.inr (1, 9216)) := rfl
theorem s_425 : w_sh w_G0 (425 : Int).toNat = some (.inr (0, 4096)) := rfl
theorem s_426 : w_sh w_G0 (426 : Int).toNat = some (.inr (0, 8000)) := rfl
theorem s_427 : w_sh w_G0 (427 : Int).toNat = some (.inr (0, 25)) := rfl
theorem s_428 : w_sh w_G0 (428 : Int).toNat = some (.inl (12, [439, 0, 440, 0, 441, 0, 2, 442, 443, 444, 445, 446, 447, 448, 449, 0, 450, 0, 3, 0, 0, 0, 0, 0, 0, 2, 0, 0, 0, 0, 0, 0, 2, 451, 0, 452, 453, 0, 0, 0, 2, 454, 455, 456, 457, 458, 459, 460, 461, 462, 463, 464, 465, 466, 467, 468, 469, 470, 471, 472, 0, 0, 473, 2, 0, 0, 0, 0, 0, 0, 0, 0, 474, 475, 476, 0, 477, 0, 1, 0, 0, 0, 0, 0, 0, 478, 479, 480, 0, 0, 481, 482, 0, 483, 0, 484, 485, 486, 487, 488, 489, 490, 0, 2, 0, 491, 0, 0, 492, 2, 493, 494, 0, 495, 496, 0, 0, 497, 498, 499, 0])) := rfl
theorem s_429 : w_sh w_G0 (429 : Int).toNat = some (.inr (1, 8000)) := rfl
theorem s_430 : w_sh w_G0 (430 : Int).toNat = some (.inr (1, 8000)) := rfl
theorem s_431 : w_sh w_G0 (431 : Int).toNat = some (.inr (1, 30100)) := rfl
theorem s_432 : w_sh w_G0 (432 : Int).toNat = some (.inr (1, 40000)) := rfl
theorem s_433 : w_sh w_G0 (433 : Int).toNat = some (.inr (0, 40000)) := rfl
theorem s_434 : w_sh w_G0 (434 : Int).toNat = some (.inr (0, 40000)) := rfl
theorem s_435 : w_sh w_G0 (435 : Int).toNat = some (.inr (0, 40000)) := rfl
theorem s_436 : w_sh w_G0 (436 : Int).toNat = some (.inr (0, 40000)) := rfl
theorem s_437 : w_sh w_G0 (437 : Int).toNat = some (.inr (0, 40000)) := rfl
theorem s_438 : w_sh w_G0 (438 : Int).toNat = some (.inr (0, 40000)) := rfl
theorem s_439 : w_sh w_G0 (439 : Int).toNat = some (.inr (0, 40000)) := rfl
theorem s_440 : w_sh w_G0 (440 : Int).toNat = some (.inr (1, 150000)) := rfl
theorem s_441 : w_sh w_G0 (441 : Int).toNat = some (.inr (1, 57000)) := rfl
theorem s_442 : w_sh w_G0 (442 : Int).toNat = some (.inr (1, 8200)) := rfl
theorem s_443 : w_sh w_G0 (443 : Int).toNat = some (.inr (1, 8200)) := rfl
theorem s_444 : w_sh w_G0 (444 : Int).toNat = some (.inr (0, 320)) := rfl
theorem s_445 : w_sh w_G0 (445 : Int).toNat = some (.inr (0, 16)) := rfl
theorem s_446 : w_sh w_G0 (446 : Int).toNat = some (.inr (0, 288)) := rfl
theorem s_447 : w_sh w_G0 (447 : Int).toNat = some (.inr (0, 16)) := rfl
theorem s_448 : w_sh w_G0 (448 : Int).toNat = some (.inr (0, 32)) := rfl
theorem s_449 : w_sh w_G0 (449 : Int).toNat = some (.inr (0, 16)) := rfl
theorem s_450 : w_sh w_G0 (450 : Int).toNat = some (.inr (0, 340)) := rfl
theorem s_451 : w_sh w_G0 (451 : Int).toNat = some (.inr (1, 200)) := rfl
theorem s_452 : w_sh w_G0 (452 : Int).toNat = some (.inr (3, 200)) := rfl
theorem s_453 : w_sh w_G0 (453 : Int).toNat = some (.inr (3, 200)) := rfl
theorem s_454 : w_sh w_G0 (454 : Int).toNat = some (.inr (2, 200)) := rfl
theorem s_455 : w_sh w_G0 (455 : Int).toNat = some (.inr (0, 200)) := rfl
theorem s_456 : w_sh w_G0 (456 : Int).toNat = some (.inr (1, 200)) := rfl
theorem s_457 : w_sh w_G0 (457 : Int).toNat = some (.inr (2, 200)) := rfl
theorem s_458 : w_sh w_G0 (458 : Int).toNat = some (.inr (0, 200)) := rfl
theorem s_459 : w_sh w_G0 (459 : Int).toNat = some (.inr (0, 200)) := rfl
theorem s_460 : w_sh w_G0 (460 : Int).toNat = some (.inr (2, 200)) := rfl
theorem s_461 : w_sh w_G0 (461 : Int).toNat = some (.inr (2, 200)) := rfl
theorem s_462 : w_sh w_G0 (462 : Int).toNat = some (.inr (2, 200)) := rfl
theorem s_463 : w_sh w_G0 (463 : Int).toNat = some (.inr (3, 12)) := rfl
theorem s_464 : w_sh w_G0 (464 : Int).toNat = some (.inr (1, 200)) := rfl
theorem s_465 : w_sh w_G0 (465 : Int).toNat = some (.inr (3, 200)) := rfl
theorem s_466 : w_sh w_G0 (466 : Int).toNat = some (.inr (3, 200)) := rfl
theorem s_467 : w_sh w_G0 (467 : Int).toNat = some (.inr (0, 3)) := rfl
theorem s_468 : w_sh w_G0 (468 : Int).toNat = some (.inr (0, 61)) := rfl
theorem s_469 : w_sh w_G0 (469 : Int).toNat = some (.inr (0, 200)) := rfl
theorem s_470 : w_sh w_G0 (470 : Int).toNat = some (.inr (2, 200)) := rfl
theorem s_471 : w_sh w_G0 (471 : Int).toNat = some (.inr (0, 26)) := rfl
theorem s_472 : w_sh w_G0 (472 : Int).toNat = some (.inr (1, 40100)) := rfl
theorem s_473 : w_sh w_G0 (473 : Int).toNat = some (.inr (0, 40)) := rfl
theorem s_474 : w_sh w_G0 (474 : Int).toNat = some (.inr (0, 6)) := rfl
theorem s_475 : w_sh w_G0 (475 : Int).toNat = some (.inr (0, 6)) := rfl
theorem s_476 : w_sh w_G0 (476 : Int).toNat = some (.inr (0, 6)) := rfl
theorem s_477 : w_sh w_G0 (477 : Int).toNat = some (.inr (0, 6)) := rfl
theorem s_478 : w_sh w_G0 (478 : Int).toNat = some (.inr (3, 6)) := rfl
theorem s_479 : w_sh w_G0 (479 : Int).toNat = some (.inr (0, 9)) := rfl
theorem s_480 : w_sh w_G0 (480 : Int).toNat = some (.inr (0, 300)) := rfl
theorem s_481 : w_sh w_G0 (481 : Int).toNat = some (.inr (0, 7500)) := rfl
theorem s_482 : w_sh w_G0 (482 : Int).toNat = some (.inr (4, 47)) := rfl
theorem s_483 : w_sh w_G0 (483 : Int).toNat = some (.inr (0, 200)) := rfl
theorem s_484 : w_sh w_G0 (484 : Int).toNat = some (.inr (0, 200)) := rfl
theorem s_485 : w_sh w_G0 (485 : Int).toNat = some (.inr (0, 201)) := rfl
theorem s_486 : w_sh w_G0 (486 : Int).toNat = some (.inr (1, 50000)) := rfl
theorem s_487 : w_sh w_G0 (487 : Int).toNat = some (.inr (0, 4096)) := rfl
theorem s_488 : w_sh w_G0 (488 : Int).toNat = some (.inr (0, 57000)) := rfl
theorem s_489 : w_sh w_G0 (489 : Int).toNat = some (.inr (1, 1400)) := rfl
theorem s_352 : w_sh w_G0 (352 : Int).toNat = some (.inr (1, 19)) := rfl
theorem s_353 : w_sh w_G0 (353 : Int).toNat = some (.inr (0, 29)) := rfl
theorem s_354 : w_sh w_G0 (354 : Int).toNat = some (.inr (1, 29)) := rfl
theorem s_355 : w_sh w_G0 (355 : Int).toNat = some (.inr (0, 30)) := rfl
theorem s_356 : w_sh w_G0 (356 : Int).toNat = some (.inr (1, 30)) := rfl
/-- one of the two parsers -/
def w_isP (a : Int) : Prop := a = 376 ∨ a = 405
theorem s_P {a : Int} (h : w_isP a) : w_sh w_G0 a.toNat = some (.inl (5, [369, 375, 3, 0, 0, 0, 0, 0, 0, 0, 2, 0, 0, 0, 0, 2, 2, 0])) := by rcases h with rfl | rfl <;> rfl
theorem w_E {a : Int} (h : 357 ≤ a) : w_G0.1 ≤ a.toNat := by show 357 ≤ a.toNat; omega
theorem w_EP {a : Int} (h : w_isP a) : w_G0.1 ≤ a.toNat := w_E (by rcases h with rfl | rfl <;> decide)
abbrev x_W (d : Nat) (M : ex_M) (t pc : Nat) (lv : List (Option w_V)) (st : List w_V) (m : w_M) (Q : Int → w_M → Prop) : Prop := w_W w_G0 d M t pc lv st m Q
abbrev x_C (d k t : Nat) (as : List w_V) (m : w_M) (Q : Int → w_M → Prop) : Prop := w_C w_G0 d k t as m Q
