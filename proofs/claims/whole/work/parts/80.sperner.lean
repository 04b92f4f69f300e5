/-! SPERNER for ten members: sets of which none is within another are at most 252 (a cut of all sets into 252 chains) -/
def chns : List (List Nat) := [[0, 512, 768, 896, 960, 992, 1008, 1016, 1020, 1022, 1023], [1, 513, 769, 897, 961, 993, 1009, 1017, 1021], [2, 514, 770, 898, 962, 994, 1010, 1018, 1019], [3, 515, 771, 899, 963, 995, 1011], [4, 516, 772, 900, 964, 996, 1012, 1014, 1015], [5, 517, 773, 901, 965, 997, 1013], [6, 518, 774, 902, 966, 998, 999], [7, 519, 775, 903, 967], [8, 520, 776, 904, 968, 1000, 1004, 1006, 1007], [9, 521, 777, 905, 969, 1001, 1005], [10, 522, 778, 906, 970, 1002, 1003], [11, 523, 779, 907, 971], [12, 524, 780, 908, 972, 974, 975], [13, 525, 781, 909, 973], [14, 526, 782, 910, 911], [15, 527, 783], [16, 528, 784, 912, 976, 984, 988, 990, 991], [17, 529, 785, 913, 977, 985, 989], [18, 530, 786, 914, 978, 986, 987], [19, 531, 787, 915, 979], [20, 532, 788, 916, 980, 982, 983], [21, 533, 789, 917, 981], [22, 534, 790, 918, 919], [23, 535, 791], [24, 536, 792, 920, 924, 926, 927], [25, 537, 793, 921, 925], [26, 538, 794, 922, 923], [27, 539, 795], [28, 540, 796, 798, 799], [29, 541, 797], [30, 542, 543], [31], [32, 544, 800, 928, 944, 952, 956, 958, 959], [33, 545, 801, 929, 945, 953, 957], [34, 546, 802, 930, 946, 954, 955], [35, 547, 803, 931, 947], [36, 548, 804, 932, 948, 950, 951], [37, 549, 805, 933, 949], [38, 550, 806, 934, 935], [39, 551, 807], [40, 552, 808, 936, 940, 942, 943], [41, 553, 809, 937, 941], [42, 554, 810, 938, 939], [43, 555, 811], [44, 556, 812, 814, 815], [45, 557, 813], [46, 558, 559], [47], [48, 560, 816, 824, 828, 830, 831], [49, 561, 817, 825, 829], [50, 562, 818, 826, 827], [51, 563, 819], [52, 564, 820, 822, 823], [53, 565, 821], [54, 566, 567], [55], [56, 568, 572, 574, 575], [57, 569, 573], [58, 570, 571], [59], [60, 62, 63], [61], [64, 576, 832, 864, 880, 888, 892, 894, 895], [65, 577, 833, 865, 881, 889, 893], [66, 578, 834, 866, 882, 890, 891], [67, 579, 835, 867, 883], [68, 580, 836, 868, 884, 886, 887], [69, 581, 837, 869, 885], [70, 582, 838, 870, 871], [71, 583, 839], [72, 584, 840, 872, 876, 878, 879], [73, 585, 841, 873, 877], [74, 586, 842, 874, 875], [75, 587, 843], [76, 588, 844, 846, 847], [77, 589, 845], [78, 590, 591], [79], [80, 592, 848, 856, 860, 862, 863], [81, 593, 849, 857, 861], [82, 594, 850, 858, 859], [83, 595, 851], [84, 596, 852, 854, 855], [85, 597, 853], [86, 598, 599], [87], [88, 600, 604, 606, 607], [89, 601, 605], [90, 602, 603], [91], [92, 94, 95], [93], [96, 608, 624, 632, 636, 638, 639], [97, 609, 625, 633, 637], [98, 610, 626, 634, 635], [99, 611, 627], [100, 612, 628, 630, 631], [101, 613, 629], [102, 614, 615], [103], [104, 616, 620, 622, 623], [105, 617, 621], [106, 618, 619], [107], [108, 110, 111], [109], [112, 120, 124, 126, 127], [113, 121, 125], [114, 122, 123], [115], [116, 118, 119], [117], [128, 640, 704, 736, 752, 760, 764, 766, 767], [129, 641, 705, 737, 753, 761, 765], [130, 642, 706, 738, 754, 762, 763], [131, 643, 707, 739, 755], [132, 644, 708, 740, 756, 758, 759], [133, 645, 709, 741, 757], [134, 646, 710, 742, 743], [135, 647, 711], [136, 648, 712, 744, 748, 750, 751], [137, 649, 713, 745, 749], [138, 650, 714, 746, 747], [139, 651, 715], [140, 652, 716, 718, 719], [141, 653, 717], [142, 654, 655], [143], [144, 656, 720, 728, 732, 734, 735], [145, 657, 721, 729, 733], [146, 658, 722, 730, 731], [147, 659, 723], [148, 660, 724, 726, 727], [149, 661, 725], [150, 662, 663], [151], [152, 664, 668, 670, 671], [153, 665, 669], [154, 666, 667], [155], [156, 158, 159], [157], [160, 672, 688, 696, 700, 702, 703], [161, 673, 689, 697, 701], [162, 674, 690, 698, 699], [163, 675, 691], [164, 676, 692, 694, 695], [165, 677, 693], [166, 678, 679], [167], [168, 680, 684, 686, 687], [169, 681, 685], [170, 682, 683], [171], [172, 174, 175], [173], [176, 184, 188, 190, 191], [177, 185, 189], [178, 186, 187], [179], [180, 182, 183], [181], [192, 224, 240, 248, 252, 254, 255], [193, 225, 241, 249, 253], [194, 226, 242, 250, 251], [195, 227, 243], [196, 228, 244, 246, 247], [197, 229, 245], [198, 230, 231], [199], [200, 232, 236, 238, 239], [201, 233, 237], [202, 234, 235], [203], [204, 206, 207], [205], [208, 216, 220, 222, 223], [209, 217, 221], [210, 218, 219], [211], [212, 214, 215], [213], [256, 384, 448, 480, 496, 504, 508, 510, 511], [257, 385, 449, 481, 497, 505, 509], [258, 386, 450, 482, 498, 506, 507], [259, 387, 451, 483, 499], [260, 388, 452, 484, 500, 502, 503], [261, 389, 453, 485, 501], [262, 390, 454, 486, 487], [263, 391, 455], [264, 392, 456, 488, 492, 494, 495], [265, 393, 457, 489, 493], [266, 394, 458, 490, 491], [267, 395, 459], [268, 396, 460, 462, 463], [269, 397, 461], [270, 398, 399], [271], [272, 400, 464, 472, 476, 478, 479], [273, 401, 465, 473, 477], [274, 402, 466, 474, 475], [275, 403, 467], [276, 404, 468, 470, 471], [277, 405, 469], [278, 406, 407], [279], [280, 408, 412, 414, 415], [281, 409, 413], [282, 410, 411], [283], [284, 286, 287], [285], [288, 416, 432, 440, 444, 446, 447], [289, 417, 433, 441, 445], [290, 418, 434, 442, 443], [291, 419, 435], [292, 420, 436, 438, 439], [293, 421, 437], [294, 422, 423], [295], [296, 424, 428, 430, 431], [297, 425, 429], [298, 426, 427], [299], [300, 302, 303], [301], [304, 312, 316, 318, 319], [305, 313, 317], [306, 314, 315], [307], [308, 310, 311], [309], [320, 352, 368, 376, 380, 382, 383], [321, 353, 369, 377, 381], [322, 354, 370, 378, 379], [323, 355, 371], [324, 356, 372, 374, 375], [325, 357, 373], [326, 358, 359], [327], [328, 360, 364, 366, 367], [329, 361, 365], [330, 362, 363], [331], [332, 334, 335], [333], [336, 344, 348, 350, 351], [337, 345, 349], [338, 346, 347], [339], [340, 342, 343], [341]]
def pwB : List Nat → Bool
  | [] => true
  | a :: l => l.all (fun b => a &&& b == a) && pwB l
theorem pwB_s : ∀ {l : List Nat}, pwB l = true → ∀ a ∈ l, ∀ b ∈ l, a = b ∨ a &&& b = a ∨ b &&& a = b
  | [], _, _, ha, _, _ => absurd ha List.not_mem_nil
  | x :: l, h, a, ha, b, hb => by
    rw [pwB, Bool.and_eq_true, List.all_eq_true] at h
    rcases List.mem_cons.mp ha with e | e <;> rcases List.mem_cons.mp hb with f | f
    · exact Or.inl (e.trans f.symm)
    · right; left; rw [e]; simpa using h.1 b f
    · right; right; rw [f]; simpa using h.1 a e
    · exact pwB_s h.2 a e b f
set_option maxRecDepth 100000 in
theorem chns_pw : chns.all pwB = true := by decide +kernel
def msk : List Nat → Nat
  | [] => 0
  | x :: l => 2 ^ x ||| msk l
theorem msk_s : ∀ (l : List Nat) (i : Nat), (msk l).testBit i = true → i ∈ l
  | [], i, h => by rw [msk, Nat.zero_testBit] at h; cases h
  | x :: l, i, h => by
    rw [msk, Nat.testBit_or, Bool.or_eq_true, Nat.testBit_two_pow, decide_eq_true_iff] at h
    rcases h with h | h
    · rw [h]; exact List.mem_cons_self
    · exact List.mem_cons_of_mem _ (msk_s l i h)
set_option maxRecDepth 100000 in
theorem chns_msk : msk chns.flatten = 2 ^ 1024 - 1 := by decide +kernel
theorem chns_all (x : Nat) (hx : x < 1024) : chns.any (fun c => c.contains x) = true := by
  have h : (msk chns.flatten).testBit x = true := by
    rw [chns_msk, Nat.testBit_two_pow_sub_one]
    exact decide_eq_true hx
  obtain ⟨c, h1, h2⟩ := List.mem_flatten.mp (msk_s _ _ h)
  rw [List.any_eq_true]
  exact ⟨c, h1, by simpa using h2⟩
set_option maxRecDepth 100000 in
theorem chns_len : chns.length = 252 := by decide +kernel
def chI (x : Nat) : Nat := chns.findIdx (fun c => c.contains x)
theorem chI_len {x : Nat} (hx : x < 1024) : chI x < chns.length := by
  unfold chI
  exact List.findIdx_lt_length_of_exists (List.any_eq_true.mp (chns_all x hx))
theorem chI_mem {x : Nat} (hx : x < 1024) : ∃ c, chns[chI x]? = some c ∧ x ∈ c := by
  have hl := chI_len hx
  refine ⟨chns[chI x], List.getElem?_eq_getElem hl, ?_⟩
  have h2 : chns.findIdx (fun c => c.contains x) < chns.length := hl
  have := List.findIdx_getElem (xs := chns) (p := fun c => c.contains x) (w := h2)
  simpa [chI] using this
theorem chI_inj {a b : Nat} (ha : a < 1024) (hb : b < 1024) (h : chI a = chI b) : a = b ∨ a &&& b = a ∨ b &&& a = b := by
  obtain ⟨c, h1, h2⟩ := chI_mem ha
  obtain ⟨c', h3, h4⟩ := chI_mem hb
  rw [h, h3] at h1
  cases h1
  exact pwB_s (List.all_eq_true.mp chns_pw c (List.mem_of_getElem? h3)) a h2 b h4
theorem nodup_le : ∀ {l l' : List Nat}, l.Nodup → (∀ x ∈ l, x ∈ l') → l.length ≤ l'.length
  | [], _, _, _ => Nat.zero_le _
  | a :: l, l', hn, h => by
    have hn' := List.nodup_cons.mp hn
    have ha : a ∈ l' := h a List.mem_cons_self
    have ih := nodup_le (l := l) (l' := l'.erase a) hn'.2 (fun x hx => (List.mem_erase_of_ne (show x ≠ a from fun e => hn'.1 (by rw [← e]; exact hx))).mpr (h x (List.mem_cons_of_mem _ hx)))
    rw [List.length_erase_of_mem ha] at ih
    have := List.length_pos_of_mem ha
    simp only [List.length_cons]
    omega
theorem sperner {l : List Nat} (hn : l.Nodup) (hlt : ∀ x ∈ l, x < 1024) (ha : ∀ a ∈ l, ∀ b ∈ l, a &&& b = a → a = b) : l.length ≤ 252 := by
  have h1 : (l.map chI).Nodup := by
    rw [List.Nodup, List.pairwise_map]
    refine List.Pairwise.imp_of_mem ?_ hn
    intro a b h1 h2 hne e
    rcases chI_inj (hlt a h1) (hlt b h2) e with q | q | q
    · exact hne q
    · exact hne (ha a h1 b h2 q)
    · exact hne (ha b h2 a h1 q).symm
  have h2 := nodup_le (l' := List.range 252) h1 (fun x hx => by
    obtain ⟨y, h3, h4⟩ := List.mem_map.mp hx
    rw [← h4, List.mem_range, ← chns_len]
    exact chI_len (hlt y h3))
  rwa [List.length_map, List.length_range] at h2
/-- the sets within a set, one behind the other -/
theorem submask : ∀ (n p part q : Nat), part < 2 ^ n → p &&& q = p → part &&& q = part → p < part → p ≤ (part - 1) &&& q := by
  intro n
  induction n with
  | zero => intro p part q h _ _ hlt; simp at h; omega
  | succ n ih =>
    intro p part q h hp ht hlt
    have hp2 : p / 2 &&& q / 2 = p / 2 := by rw [← Nat.and_div_two, hp]
    have ht2 : part / 2 &&& q / 2 = part / 2 := by rw [← Nat.and_div_two, ht]
    have hpm : p % 2 = 1 → q % 2 = 1 := fun e => by
      have := Nat.and_mod_two_eq_one (a := p) (b := q)
      rw [hp] at this
      exact (this.mp e).2
    have hR2 : ((part - 1) &&& q) / 2 = (part - 1) / 2 &&& q / 2 := Nat.and_div_two
    have hRm : (part - 1) % 2 = 1 → q % 2 = 1 → ((part - 1) &&& q) % 2 = 1 := fun a b => Nat.and_mod_two_eq_one.mpr ⟨a, b⟩
    rw [Nat.pow_succ] at h
    rcases Nat.mod_two_eq_zero_or_one part with e | e
    · have := ih (p / 2) (part / 2) (q / 2) (by omega) hp2 ht2 (by omega)
      rw [show part / 2 - 1 = (part - 1) / 2 by omega, ← hR2] at this
      rcases Nat.mod_two_eq_zero_or_one p with f | f
      · omega
      · have := hRm (by omega) (hpm f)
        omega
    · rw [show (part - 1) / 2 = part / 2 by omega, ht2] at hR2
      omega
theorem win_sub {a b : Nat} (ha : a < 1024) (hb : b < 1024) : (nI a &&& (nI b ^^^ (-1))) = 0 ↔ a &&& b = a := by
  rw [win_nI ha hb]
  constructor
  · intro h2
    apply Nat.eq_of_testBit_eq
    intro i
    rw [Nat.testBit_and]
    rcases Nat.lt_or_ge i 10 with c | c
    · cases hx : a.testBit i
      · rfl
      · rw [h2 i c hx]; rfl
    · have hx : a.testBit i = false := Nat.testBit_lt_two_pow (Nat.lt_of_lt_of_le (show a < 2 ^ 10 from ha) (Nat.pow_le_pow_right (by omega) c))
      rw [hx, Bool.false_and]
  · intro h i _ hx
    rw [← h, Nat.testBit_and, Bool.and_eq_true] at hx
    exact hx.2
theorem sub_le {a b : Nat} (h : a &&& b = a) : a ≤ b := by rw [← h]; exact Nat.and_le_right
theorem sub_trans {a b c : Nat} (h1 : a &&& b = a) (h2 : b &&& c = b) : a &&& c = a := by
  rw [← h1, Nat.and_assoc, h2]
theorem sub_bit {a b : Nat} : a &&& b = a ↔ ∀ i, a.testBit i = true → b.testBit i = true := by
  constructor
  · intro h i hx
    rw [← h, Nat.testBit_and, Bool.and_eq_true] at hx
    exact hx.2
  · intro h
    apply Nat.eq_of_testBit_eq
    intro i
    rw [Nat.testBit_and]
    cases hx : a.testBit i
    · rfl
    · rw [h i hx]; rfl
