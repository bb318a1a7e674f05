/-! ===== the state at the head of the law's loop: a new Tallow, a new reference, two rows ===== -/
noncomputable def qh0no : qO := (9, 0, 0, fun _ => (7, 0, 0))
noncomputable def qh0_0 : Nat → qO := fun q => (qif (Nat.ble 265 q) (qif (Nat.ble 267 q) (qif (Nat.ble 268 q) (1, 3, 1, fun _ => (1, 269, 0)) (0, 0, 3, fun j => qif (Nat.beq j 2) (0, 2147483647, 2147483647) (qif (Nat.beq j 1) (0, 2147483647, 2147483647) (qif (Nat.beq j 0) (0, 2147483647, 2147483647) ((0, 2147483648, 2147483648)))))) (qif (Nat.ble 266 q) (1, 3, 1, fun _ => (1, 267, 0)) (1, 7, 3, fun j => (qif (Nat.ble 1 j) (qif (Nat.ble 2 j) (0, 2147483728, 2147483728) (1, 268, 0)) (1, 266, 0))))) (qif (Nat.ble 263 q) (qif (Nat.ble 264 q) (0, 0, 500, fun _ => (0, 2147483648, 2147483648)) (1, 3, 1, fun _ => (1, 264, 0))) (qif (Nat.ble 262 q) (1, 6, 2, fun j => (qif (Nat.ble 1 j) (0, 2147483648, 2147483648) (1, 263, 0))) (1, 8, 7, fun j => (qif (Nat.ble 3 j) (qif (Nat.ble 5 j) (qif (Nat.ble 6 j) (0, 2147483648, 2147483648) (1, 375, 0)) (qif (Nat.ble 4 j) (1, 340, 0) (1, 305, 0))) (qif (Nat.ble 1 j) (qif (Nat.ble 2 j) (1, 270, 0) (1, 265, 0)) (1, 262, 0)))))))
noncomputable def qh0_1 : Nat → qO := fun q => (qif (Nat.ble 273 q) (qif (Nat.ble 275 q) (qif (Nat.ble 276 q) (1, 3, 1, fun _ => (1, 277, 0)) (0, 0, 501, fun _ => (0, 2147483648, 2147483648))) (qif (Nat.ble 274 q) (1, 3, 1, fun _ => (1, 275, 0)) (0, 0, 500, fun _ => (0, 2147483648, 2147483648)))) (qif (Nat.ble 271 q) (qif (Nat.ble 272 q) (1, 3, 1, fun _ => (1, 273, 0)) (1, 4, 14, fun j => (qif (Nat.ble 7 j) (qif (Nat.ble 10 j) (qif (Nat.ble 12 j) (qif (Nat.ble 13 j) (0, 2147483648, 2147483648) (0, 2147483648, 2147483648)) (qif (Nat.ble 11 j) (0, 2147483648, 2147483648) (0, 2147483648, 2147483648))) (qif (Nat.ble 8 j) (qif (Nat.ble 9 j) (0, 2147483648, 2147483648) (0, 2147483648, 2147483648)) (0, 2147483648, 2147483648))) (qif (Nat.ble 3 j) (qif (Nat.ble 5 j) (qif (Nat.ble 6 j) (1, 284, 0) (1, 282, 0)) (qif (Nat.ble 4 j) (1, 280, 0) (1, 278, 0))) (qif (Nat.ble 1 j) (qif (Nat.ble 2 j) (1, 276, 0) (1, 274, 0)) (1, 272, 0)))))) (qif (Nat.ble 270 q) (1, 5, 13, fun j => (qif (Nat.ble 6 j) (qif (Nat.ble 9 j) (qif (Nat.ble 11 j) (qif (Nat.ble 12 j) (0, 2147483648, 2147483648) (0, 2147483648, 2147483648)) (qif (Nat.ble 10 j) (0, 2147483648, 2147483648) (0, 2147483648, 2147483648))) (qif (Nat.ble 7 j) (qif (Nat.ble 8 j) (0, 2147483648, 2147483648) (1, 303, 0)) (1, 301, 0))) (qif (Nat.ble 3 j) (qif (Nat.ble 4 j) (qif (Nat.ble 5 j) (1, 299, 0) (1, 297, 0)) (1, 295, 0)) (qif (Nat.ble 1 j) (qif (Nat.ble 2 j) (1, 293, 0) (1, 286, 0)) (1, 271, 0))))) (0, 0, 20, fun _ => (0, 2147483648, 2147483648)))))
noncomputable def qh0_2 : Nat → qO := fun q => (qif (Nat.ble 281 q) (qif (Nat.ble 283 q) (qif (Nat.ble 284 q) (1, 3, 1, fun _ => (1, 285, 0)) (0, 0, 60, fun _ => (0, 2147483648, 2147483648))) (qif (Nat.ble 282 q) (1, 3, 1, fun _ => (1, 283, 0)) (0, 0, 501, fun _ => (0, 2147483648, 2147483648)))) (qif (Nat.ble 279 q) (qif (Nat.ble 280 q) (1, 3, 1, fun _ => (1, 281, 0)) (0, 0, 501, fun _ => (0, 2147483648, 2147483648))) (qif (Nat.ble 278 q) (1, 3, 1, fun _ => (1, 279, 0)) (0, 0, 501, fun _ => (0, 2147483648, 2147483648)))))
noncomputable def qh0_3 : Nat → qO := fun q => (qif (Nat.ble 289 q) (qif (Nat.ble 291 q) (qif (Nat.ble 292 q) (0, 0, 561, fun _ => (0, 2147483648, 2147483648)) (1, 3, 1, fun _ => (1, 292, 0))) (qif (Nat.ble 290 q) (0, 0, 561, fun _ => (0, 2147483648, 2147483648)) (1, 3, 1, fun _ => (1, 290, 0)))) (qif (Nat.ble 287 q) (qif (Nat.ble 288 q) (0, 0, 561, fun _ => (0, 2147483648, 2147483648)) (1, 3, 1, fun _ => (1, 288, 0))) (qif (Nat.ble 286 q) (1, 2, 4, fun j => (qif (Nat.ble 2 j) (qif (Nat.ble 3 j) (0, 2147483648, 2147483648) (1, 291, 0)) (qif (Nat.ble 1 j) (1, 289, 0) (1, 287, 0)))) (0, 0, 60, fun _ => (0, 2147483648, 2147483648)))))
noncomputable def qh0_4 : Nat → qO := fun q => (qif (Nat.ble 297 q) (qif (Nat.ble 299 q) (qif (Nat.ble 300 q) (0, 0, 501, fun _ => (0, 2147483648, 2147483648)) (1, 3, 1, fun _ => (1, 300, 0))) (qif (Nat.ble 298 q) (0, 0, 501, fun _ => (0, 2147483648, 2147483648)) (1, 3, 1, fun _ => (1, 298, 0)))) (qif (Nat.ble 295 q) (qif (Nat.ble 296 q) (0, 0, 501, fun _ => (0, 2147483648, 2147483648)) (1, 3, 1, fun _ => (1, 296, 0))) (qif (Nat.ble 294 q) (0, 0, 60, fun _ => (0, 2147483648, 2147483648)) (1, 3, 1, fun _ => (1, 294, 0)))))
noncomputable def qh0_5 : Nat → qO := fun q => (qif (Nat.ble 305 q) (qif (Nat.ble 307 q) (qif (Nat.ble 308 q) (0, 0, 500, fun _ => (0, 2147483648, 2147483648)) (1, 3, 1, fun _ => (1, 308, 0))) (qif (Nat.ble 306 q) (1, 4, 14, fun j => (qif (Nat.ble 7 j) (qif (Nat.ble 10 j) (qif (Nat.ble 12 j) (qif (Nat.ble 13 j) (0, 2147483648, 2147483648) (0, 2147483648, 2147483648)) (qif (Nat.ble 11 j) (0, 2147483648, 2147483648) (0, 2147483648, 2147483648))) (qif (Nat.ble 8 j) (qif (Nat.ble 9 j) (0, 2147483648, 2147483648) (0, 2147483648, 2147483648)) (0, 2147483648, 2147483648))) (qif (Nat.ble 3 j) (qif (Nat.ble 5 j) (qif (Nat.ble 6 j) (1, 319, 0) (1, 317, 0)) (qif (Nat.ble 4 j) (1, 315, 0) (1, 313, 0))) (qif (Nat.ble 1 j) (qif (Nat.ble 2 j) (1, 311, 0) (1, 309, 0)) (1, 307, 0))))) (1, 5, 13, fun j => (qif (Nat.ble 6 j) (qif (Nat.ble 9 j) (qif (Nat.ble 11 j) (qif (Nat.ble 12 j) (0, 2147483648, 2147483648) (0, 2147483648, 2147483648)) (qif (Nat.ble 10 j) (0, 2147483648, 2147483648) (0, 2147483648, 2147483648))) (qif (Nat.ble 7 j) (qif (Nat.ble 8 j) (0, 2147483649, 2147483649) (1, 338, 0)) (1, 336, 0))) (qif (Nat.ble 3 j) (qif (Nat.ble 4 j) (qif (Nat.ble 5 j) (1, 334, 0) (1, 332, 0)) (1, 330, 0)) (qif (Nat.ble 1 j) (qif (Nat.ble 2 j) (1, 328, 0) (1, 321, 0)) (1, 306, 0))))))) (qif (Nat.ble 303 q) (qif (Nat.ble 304 q) (0, 0, 6, fun _ => (0, 2147483648, 2147483648)) (1, 3, 1, fun _ => (1, 304, 0))) (qif (Nat.ble 302 q) (0, 0, 20, fun _ => (0, 2147483648, 2147483648)) (1, 3, 1, fun _ => (1, 302, 0)))))
noncomputable def qh0_6 : Nat → qO := fun q => (qif (Nat.ble 313 q) (qif (Nat.ble 315 q) (qif (Nat.ble 316 q) (0, 0, 501, fun _ => (0, 2147483648, 2147483648)) (1, 3, 1, fun _ => (1, 316, 0))) (qif (Nat.ble 314 q) (0, 0, 501, fun _ => (0, 2147483648, 2147483648)) (1, 3, 1, fun _ => (1, 314, 0)))) (qif (Nat.ble 311 q) (qif (Nat.ble 312 q) (0, 0, 501, fun _ => (0, 2147483648, 2147483648)) (1, 3, 1, fun _ => (1, 312, 0))) (qif (Nat.ble 310 q) (0, 0, 501, fun _ => (0, 2147483648, 2147483648)) (1, 3, 1, fun _ => (1, 310, 0)))))
noncomputable def qh0_7 : Nat → qO := fun q => (qif (Nat.ble 321 q) (qif (Nat.ble 323 q) (qif (Nat.ble 324 q) (1, 3, 1, fun _ => (1, 325, 0)) (0, 0, 561, fun _ => (0, 2147483648, 2147483648))) (qif (Nat.ble 322 q) (1, 3, 1, fun _ => (1, 323, 0)) (1, 2, 4, fun j => (qif (Nat.ble 2 j) (qif (Nat.ble 3 j) (0, 2147483648, 2147483648) (1, 326, 0)) (qif (Nat.ble 1 j) (1, 324, 0) (1, 322, 0)))))) (qif (Nat.ble 319 q) (qif (Nat.ble 320 q) (0, 0, 60, fun _ => (0, 2147483648, 2147483648)) (1, 3, 1, fun _ => (1, 320, 0))) (qif (Nat.ble 318 q) (0, 0, 60, fun _ => (0, 2147483648, 2147483648)) (1, 3, 1, fun _ => (1, 318, 0)))))
noncomputable def qh0_8 : Nat → qO := fun q => (qif (Nat.ble 329 q) (qif (Nat.ble 331 q) (qif (Nat.ble 332 q) (1, 3, 1, fun _ => (1, 333, 0)) (0, 0, 501, fun _ => (0, 2147483648, 2147483648))) (qif (Nat.ble 330 q) (1, 3, 1, fun _ => (1, 331, 0)) (0, 0, 60, fun _ => (0, 2147483648, 2147483648)))) (qif (Nat.ble 327 q) (qif (Nat.ble 328 q) (1, 3, 1, fun _ => (1, 329, 0)) (0, 0, 561, fun _ => (0, 2147483648, 2147483648))) (qif (Nat.ble 326 q) (1, 3, 1, fun _ => (1, 327, 0)) (0, 0, 561, fun _ => (0, 2147483648, 2147483648)))))
noncomputable def qh0_9 : Nat → qO := fun q => (qif (Nat.ble 337 q) (qif (Nat.ble 339 q) (qif (Nat.ble 340 q) (1, 5, 13, fun j => (qif (Nat.ble 6 j) (qif (Nat.ble 9 j) (qif (Nat.ble 11 j) (qif (Nat.ble 12 j) (0, 2147483648, 2147483648) (0, 2147483648, 2147483648)) (qif (Nat.ble 10 j) (0, 2147483648, 2147483648) (0, 2147483648, 2147483648))) (qif (Nat.ble 7 j) (qif (Nat.ble 8 j) (0, 2147483650, 2147483650) (1, 373, 0)) (1, 371, 0))) (qif (Nat.ble 3 j) (qif (Nat.ble 4 j) (qif (Nat.ble 5 j) (1, 369, 0) (1, 367, 0)) (1, 365, 0)) (qif (Nat.ble 1 j) (qif (Nat.ble 2 j) (1, 363, 0) (1, 356, 0)) (1, 341, 0))))) (0, 0, 6, fun _ => (0, 2147483648, 2147483648))) (qif (Nat.ble 338 q) (1, 3, 1, fun _ => (1, 339, 0)) (0, 0, 20, fun _ => (0, 2147483648, 2147483648)))) (qif (Nat.ble 335 q) (qif (Nat.ble 336 q) (1, 3, 1, fun _ => (1, 337, 0)) (0, 0, 501, fun _ => (0, 2147483648, 2147483648))) (qif (Nat.ble 334 q) (1, 3, 1, fun _ => (1, 335, 0)) (0, 0, 501, fun _ => (0, 2147483648, 2147483648)))))
noncomputable def qh0_10 : Nat → qO := fun q => (qif (Nat.ble 345 q) (qif (Nat.ble 347 q) (qif (Nat.ble 348 q) (1, 3, 1, fun _ => (1, 349, 0)) (0, 0, 501, fun _ => (0, 2147483648, 2147483648))) (qif (Nat.ble 346 q) (1, 3, 1, fun _ => (1, 347, 0)) (0, 0, 501, fun _ => (0, 2147483648, 2147483648)))) (qif (Nat.ble 343 q) (qif (Nat.ble 344 q) (1, 3, 1, fun _ => (1, 345, 0)) (0, 0, 500, fun _ => (0, 2147483648, 2147483648))) (qif (Nat.ble 342 q) (1, 3, 1, fun _ => (1, 343, 0)) (1, 4, 14, fun j => (qif (Nat.ble 7 j) (qif (Nat.ble 10 j) (qif (Nat.ble 12 j) (qif (Nat.ble 13 j) (0, 2147483648, 2147483648) (0, 2147483648, 2147483648)) (qif (Nat.ble 11 j) (0, 2147483648, 2147483648) (0, 2147483648, 2147483648))) (qif (Nat.ble 8 j) (qif (Nat.ble 9 j) (0, 2147483648, 2147483648) (0, 2147483648, 2147483648)) (0, 2147483648, 2147483648))) (qif (Nat.ble 3 j) (qif (Nat.ble 5 j) (qif (Nat.ble 6 j) (1, 354, 0) (1, 352, 0)) (qif (Nat.ble 4 j) (1, 350, 0) (1, 348, 0))) (qif (Nat.ble 1 j) (qif (Nat.ble 2 j) (1, 346, 0) (1, 344, 0)) (1, 342, 0))))))))
noncomputable def qh0_11 : Nat → qO := fun q => (qif (Nat.ble 353 q) (qif (Nat.ble 355 q) (qif (Nat.ble 356 q) (1, 2, 4, fun j => (qif (Nat.ble 2 j) (qif (Nat.ble 3 j) (0, 2147483648, 2147483648) (1, 361, 0)) (qif (Nat.ble 1 j) (1, 359, 0) (1, 357, 0)))) (0, 0, 60, fun _ => (0, 2147483648, 2147483648))) (qif (Nat.ble 354 q) (1, 3, 1, fun _ => (1, 355, 0)) (0, 0, 60, fun _ => (0, 2147483648, 2147483648)))) (qif (Nat.ble 351 q) (qif (Nat.ble 352 q) (1, 3, 1, fun _ => (1, 353, 0)) (0, 0, 501, fun _ => (0, 2147483648, 2147483648))) (qif (Nat.ble 350 q) (1, 3, 1, fun _ => (1, 351, 0)) (0, 0, 501, fun _ => (0, 2147483648, 2147483648)))))
noncomputable def qh0_12 : Nat → qO := fun q => (qif (Nat.ble 361 q) (qif (Nat.ble 363 q) (qif (Nat.ble 364 q) (0, 0, 60, fun _ => (0, 2147483648, 2147483648)) (1, 3, 1, fun _ => (1, 364, 0))) (qif (Nat.ble 362 q) (0, 0, 561, fun _ => (0, 2147483648, 2147483648)) (1, 3, 1, fun _ => (1, 362, 0)))) (qif (Nat.ble 359 q) (qif (Nat.ble 360 q) (0, 0, 561, fun _ => (0, 2147483648, 2147483648)) (1, 3, 1, fun _ => (1, 360, 0))) (qif (Nat.ble 358 q) (0, 0, 561, fun _ => (0, 2147483648, 2147483648)) (1, 3, 1, fun _ => (1, 358, 0)))))
noncomputable def qh0_13 : Nat → qO := fun q => (qif (Nat.ble 369 q) (qif (Nat.ble 371 q) (qif (Nat.ble 372 q) (0, 0, 20, fun _ => (0, 2147483648, 2147483648)) (1, 3, 1, fun _ => (1, 372, 0))) (qif (Nat.ble 370 q) (0, 0, 501, fun _ => (0, 2147483648, 2147483648)) (1, 3, 1, fun _ => (1, 370, 0)))) (qif (Nat.ble 367 q) (qif (Nat.ble 368 q) (0, 0, 501, fun _ => (0, 2147483648, 2147483648)) (1, 3, 1, fun _ => (1, 368, 0))) (qif (Nat.ble 366 q) (0, 0, 501, fun _ => (0, 2147483648, 2147483648)) (1, 3, 1, fun _ => (1, 366, 0)))))
noncomputable def qh0_14 : Nat → qO := fun q => (qif (Nat.ble 377 q) (qif (Nat.ble 379 q) (qif (Nat.ble 380 q) (0, 0, 501, fun _ => (0, 2147483648, 2147483648)) (1, 3, 1, fun _ => (1, 380, 0))) (qif (Nat.ble 378 q) (0, 0, 500, fun _ => (0, 2147483648, 2147483648)) (1, 3, 1, fun _ => (1, 378, 0)))) (qif (Nat.ble 375 q) (qif (Nat.ble 376 q) (1, 4, 14, fun j => (qif (Nat.ble 7 j) (qif (Nat.ble 10 j) (qif (Nat.ble 12 j) (qif (Nat.ble 13 j) (0, 2147483648, 2147483648) (0, 2147483648, 2147483648)) (qif (Nat.ble 11 j) (0, 2147483648, 2147483648) (0, 2147483648, 2147483648))) (qif (Nat.ble 8 j) (qif (Nat.ble 9 j) (0, 2147483648, 2147483648) (0, 2147483648, 2147483648)) (0, 2147483648, 2147483648))) (qif (Nat.ble 3 j) (qif (Nat.ble 5 j) (qif (Nat.ble 6 j) (1, 389, 0) (1, 387, 0)) (qif (Nat.ble 4 j) (1, 385, 0) (1, 383, 0))) (qif (Nat.ble 1 j) (qif (Nat.ble 2 j) (1, 381, 0) (1, 379, 0)) (1, 377, 0))))) (1, 5, 13, fun j => (qif (Nat.ble 6 j) (qif (Nat.ble 9 j) (qif (Nat.ble 11 j) (qif (Nat.ble 12 j) (0, 2147483648, 2147483648) (0, 2147483648, 2147483648)) (qif (Nat.ble 10 j) (0, 2147483648, 2147483648) (0, 2147483648, 2147483648))) (qif (Nat.ble 7 j) (qif (Nat.ble 8 j) (0, 2147483651, 2147483651) (1, 408, 0)) (1, 406, 0))) (qif (Nat.ble 3 j) (qif (Nat.ble 4 j) (qif (Nat.ble 5 j) (1, 404, 0) (1, 402, 0)) (1, 400, 0)) (qif (Nat.ble 1 j) (qif (Nat.ble 2 j) (1, 398, 0) (1, 391, 0)) (1, 376, 0)))))) (qif (Nat.ble 374 q) (0, 0, 6, fun _ => (0, 2147483648, 2147483648)) (1, 3, 1, fun _ => (1, 374, 0)))))
noncomputable def qh0_15 : Nat → qO := fun q => (qif (Nat.ble 385 q) (qif (Nat.ble 387 q) (qif (Nat.ble 388 q) (0, 0, 60, fun _ => (0, 2147483648, 2147483648)) (1, 3, 1, fun _ => (1, 388, 0))) (qif (Nat.ble 386 q) (0, 0, 501, fun _ => (0, 2147483648, 2147483648)) (1, 3, 1, fun _ => (1, 386, 0)))) (qif (Nat.ble 383 q) (qif (Nat.ble 384 q) (0, 0, 501, fun _ => (0, 2147483648, 2147483648)) (1, 3, 1, fun _ => (1, 384, 0))) (qif (Nat.ble 382 q) (0, 0, 501, fun _ => (0, 2147483648, 2147483648)) (1, 3, 1, fun _ => (1, 382, 0)))))
noncomputable def qh0_16 : Nat → qO := fun q => (qif (Nat.ble 393 q) (qif (Nat.ble 395 q) (qif (Nat.ble 396 q) (1, 3, 1, fun _ => (1, 397, 0)) (0, 0, 561, fun _ => (0, 2147483648, 2147483648))) (qif (Nat.ble 394 q) (1, 3, 1, fun _ => (1, 395, 0)) (0, 0, 561, fun _ => (0, 2147483648, 2147483648)))) (qif (Nat.ble 391 q) (qif (Nat.ble 392 q) (1, 3, 1, fun _ => (1, 393, 0)) (1, 2, 4, fun j => (qif (Nat.ble 2 j) (qif (Nat.ble 3 j) (0, 2147483648, 2147483648) (1, 396, 0)) (qif (Nat.ble 1 j) (1, 394, 0) (1, 392, 0))))) (qif (Nat.ble 390 q) (0, 0, 60, fun _ => (0, 2147483648, 2147483648)) (1, 3, 1, fun _ => (1, 390, 0)))))
noncomputable def qh0_17 : Nat → qO := fun q => (qif (Nat.ble 401 q) (qif (Nat.ble 403 q) (qif (Nat.ble 404 q) (1, 3, 1, fun _ => (1, 405, 0)) (0, 0, 501, fun _ => (0, 2147483648, 2147483648))) (qif (Nat.ble 402 q) (1, 3, 1, fun _ => (1, 403, 0)) (0, 0, 501, fun _ => (0, 2147483648, 2147483648)))) (qif (Nat.ble 399 q) (qif (Nat.ble 400 q) (1, 3, 1, fun _ => (1, 401, 0)) (0, 0, 60, fun _ => (0, 2147483648, 2147483648))) (qif (Nat.ble 398 q) (1, 3, 1, fun _ => (1, 399, 0)) (0, 0, 561, fun _ => (0, 2147483648, 2147483648)))))
noncomputable def qh0_18 : Nat → qO := fun q => (qif (Nat.ble 409 q) (qif (Nat.ble 411 q) (qif (Nat.ble 412 q) (0, 0, 3, fun j => qif (Nat.beq j 2) (0, 2147483647, 2147483647) (qif (Nat.beq j 1) (0, 2147483647, 2147483647) (qif (Nat.beq j 0) (0, 2147483647, 2147483647) ((0, 2147483648, 2147483648))))) (1, 1, 3, fun j => (qif (Nat.ble 1 j) (qif (Nat.ble 2 j) (0, 2147483648, 2147483648) (1, 2, 0)) (0, 2147483648, 2147483648)))) (qif (Nat.ble 410 q) (1, 13, 5, fun j => (qif (Nat.ble 2 j) (qif (Nat.ble 3 j) (qif (Nat.ble 4 j) (0, 2147483728, 2147483728) (1, 413, 0)) (1, 412, 0)) (qif (Nat.ble 1 j) (1, 411, 0) (0, 2147483648, 2147483648)))) (0, 0, 6, fun _ => (0, 2147483648, 2147483648)))) (qif (Nat.ble 407 q) (qif (Nat.ble 408 q) (1, 3, 1, fun _ => (1, 409, 0)) (0, 0, 20, fun _ => (0, 2147483648, 2147483648))) (qif (Nat.ble 406 q) (1, 3, 1, fun _ => (1, 407, 0)) (0, 0, 501, fun _ => (0, 2147483648, 2147483648)))))
noncomputable def qh0_19 : Nat → qO := fun q => (qif (Nat.ble 414 q) (qif (Nat.ble 415 q) (0, 2, 1, fun _ => (6, 0, 0)) (0, 1, 1, fun _ => (5, 0, 0))) (0, 0, 20, fun _ => (0, 2147483648, 2147483648)))
noncomputable def qh0 : Nat → qO := fun q => (qif (Nat.ble 341 q) (qif (Nat.ble 381 q) (qif (Nat.ble 397 q) (qif (Nat.ble 405 q) (qif (Nat.ble 413 q) (qh0_19 q) (qh0_18 q)) (qh0_17 q)) (qif (Nat.ble 389 q) (qh0_16 q) (qh0_15 q))) (qif (Nat.ble 357 q) (qif (Nat.ble 365 q) (qif (Nat.ble 373 q) (qh0_14 q) (qh0_13 q)) (qh0_12 q)) (qif (Nat.ble 349 q) (qh0_11 q) (qh0_10 q)))) (qif (Nat.ble 301 q) (qif (Nat.ble 317 q) (qif (Nat.ble 325 q) (qif (Nat.ble 333 q) (qh0_9 q) (qh0_8 q)) (qh0_7 q)) (qif (Nat.ble 309 q) (qh0_6 q) (qh0_5 q))) (qif (Nat.ble 277 q) (qif (Nat.ble 285 q) (qif (Nat.ble 293 q) (qh0_4 q) (qh0_3 q)) (qh0_2 q)) (qif (Nat.ble 269 q) (qh0_1 q) (qh0_0 q)))))
noncomputable def qw0 : qW := (qh0, 416, 155, 24343)
noncomputable def ql0 : qL := fun j => qif (Nat.ble 3 j) (qif (Nat.ble 5 j) (qif (Nat.beq j 5) (0, 2147483648, 2147483648) (7, 0, 0)) (qif (Nat.beq j 4) (1, 415, 0) (1, 414, 0))) (qif (Nat.beq j 0) (1, 0, 0) (qif (Nat.beq j 1) (1, 261, 0) (1, 410, 0)))
def qLaw : Nat := 153
/-- the law as far as a place, with the fuel that is left -/
noncomputable def qwalkL (X : Nat) (bx : qX) (c0 : qCall) (stop : Nat) (n : Nat) : Nat → Nat → qL → List qV → qW → Option (Nat × qL × List qV × qW) := @Nat.rec (fun _ => Nat → Nat → qL → List qV → qW → Option (Nat × qL × List qV × qW)) (fun _ _ _ _ _ => none) (fun n ih j pc lv st w => qif (Nat.beq pc stop) (some (Nat.succ n, lv, st, w)) (match qtab j pc with
  | (op, x, y, z, u, v, e) => qif (Nat.beq op 40) (match qinv X z u v st w with
      | none => none
      | some (as, r) => match qif (Nat.beq u 3) (qrunX X bx (qcallF X bx c0) n x 0 (qargs 0 as) [] (qzero w)) (qrunF X bx c0 n x 0 (qargs 0 as) [] (qzero w)) with
        | none => none
        | some (t, val, w') => qif (Nat.beq t 0) (ih j y lv r (qsum w w')) (qif (Nat.beq t 1) (ih j y lv (val :: r) (qsum w w')) none))
    (qif (Nat.ble 40 op) none (match qstep X bx v op x y z u e lv st w with
      | none => none
      | some (y', lv', st', w') => ih j y' lv' st' w')))) n
theorem qwalkL_ok {E : mE} {X : Nat} {bx : qX} (hE : qEok E X bx) {c0 : qCall} {mc : Nat → mS → Option mS} (hc : qCallOk E c0 mc) {stop : Nat} : ∀ (n j pc : Nat) (lv : qL) (st : List qV) (w : qW) (n' : Nat) (lv' : qL) (st' : List qV) (w' : qW), qwalkL X bx c0 stop n j pc lv st w = some (n', lv', st', w') → ∀ (lvc : mLv) (stc : List Value) (h : mH), qLr E lv lvc → qS E st stc → qWr E w h → ∃ (lvc' : mLv) (stc' : List Value) (h' : mH), mrunL E mc n ((j, pc, lvc, stc), h) = mrunL E mc n' ((j, stop, lvc', stc'), h') ∧ qLr E lv' lvc' ∧ qS E st' stc' ∧ qWr E w' h' := by
  intro n
  induction n with
  | zero => intro j pc lv st w n' lv' st' w' hq; exact hfalse hq
  | succ n ih =>
    intro j pc lv st w n' lv' st' w' hq lvc stc h hl hst hw
    have hq1 : qif (Nat.beq pc stop) (some (Nat.succ n, lv, st, w)) (match qtab j pc with
      | (op, x, y, z, u, v, e) => qif (Nat.beq op 40) (match qinv X z u v st w with
          | none => none
          | some (as, r) => match qif (Nat.beq u 3) (qrunX X bx (qcallF X bx c0) n x 0 (qargs 0 as) [] (qzero w)) (qrunF X bx c0 n x 0 (qargs 0 as) [] (qzero w)) with
            | none => none
            | some (t, val, w') => qif (Nat.beq t 0) (qwalkL X bx c0 stop n j y lv r (qsum w w')) (qif (Nat.beq t 1) (qwalkL X bx c0 stop n j y lv (val :: r) (qsum w w')) none))
        (qif (Nat.ble 40 op) none (match qstep X bx v op x y z u e lv st w with
          | none => none
          | some (y', lv', st', w') => qwalkL X bx c0 stop n j y' lv' st' w'))) = some (n', lv', st', w') := hq
    rw [qif_beq] at hq1
    by_cases hs : pc = stop
    · rw [if_pos hs] at hq1
      cases hq1
      subst hs
      exact ⟨lvc, stc, h, rfl, hl, hst, hw⟩
    · rw [if_neg hs] at hq1
      split at hq1
      rename_i op x y z u v e ht
      rw [qif_beq] at hq1
      by_cases h40 : op = 40
      · rw [if_pos h40] at hq1
        subst h40
        split at hq1
        · cases hq1
        · rename_i as r hinv
          split at hq1
          · cases hq1
          · rename_i t1 v1 w1 hcall
            obtain ⟨S1, rest, s2, k3, hrun⟩ := qcallL_ok hE hc ht hinv hcall hl hst hw (fun _ => trivial)
            rw [qif_beq, qif_beq] at hq1
            by_cases t0 : t1 = 0
            · rw [if_pos t0] at hq1
              obtain ⟨l2, c2, h2, q1, q2⟩ := ih j y lv r (qsum w w1) n' lv' st' w' hq1 lvc rest (S1.2.1, h.2.1 + S1.2.2.1, h.2.2 + S1.2.2.2) hl k3 (qWr_sum hw s2.1)
              exact ⟨l2, c2, h2, by rw [hrun none (s2.2.1 t0)]; exact q1, q2⟩
            · rw [if_neg t0] at hq1
              by_cases t9 : t1 = 1
              · rw [if_pos t9] at hq1
                obtain ⟨vv, b1, b2⟩ := s2.2.2.1 t9
                obtain ⟨l2, c2, h2, q1, q2⟩ := ih j y lv (v1 :: r) (qsum w w1) n' lv' st' w' hq1 lvc (vv :: rest) (S1.2.1, h.2.1 + S1.2.2.1, h.2.2 + S1.2.2.2) hl ⟨b2, k3⟩ (qWr_sum hw s2.1)
                exact ⟨l2, c2, h2, by rw [hrun (some vv) b1]; exact q1, q2⟩
              · rw [if_neg t9] at hq1
                cases hq1
      · rw [if_neg h40, qif_ble] at hq1
        by_cases h4 : 40 ≤ op
        · rw [if_pos h4] at hq1
          cases hq1
        · rw [if_neg h4] at hq1
          split at hq1
          · cases hq1
          · rename_i y' lv1 st1 w1 hsq
            obtain ⟨r, hr, hlk, hpc, g1, -⟩ := qtab_at ht (by omega)
            obtain ⟨k1, k2⟩ := g1 (by omega)
            subst k2
            obtain ⟨lvc', stc', h', s1, s2, s3, s4, s5, s6⟩ := qconc_step (j := j) (pc := pc) hr (qstep_ok hE k1 hsq hl hst hw)
            obtain ⟨l2, c2, h2, q1, q2⟩ := ih j y' lv1 st1 w1 n' lv' st' w' hq1 lvc' stc' h' s2 s3 s4
            exact ⟨l2, c2, h2, by rw [(qone_L n).2.2 ((j, pc, lvc, stc), h) _ e hlk s6 s5 s1]; exact q1, q2⟩
def qsameO (a b : qO) : Bool := decide (a.1 = b.1 ∧ a.2.1 = b.2.1 ∧ a.2.2.1 = b.2.2.1) && (List.range b.2.2.1).all (fun j => decide (a.2.2.2 j = b.2.2.2 j))
theorem qsameO_ok {E : mE} {a b : qO} {c : mO} (hs : qsameO a b = true) (h : qOr E a c) : qOr E b c := by
  unfold qsameO at hs
  simp only [Bool.and_eq_true, decide_eq_true_eq, List.all_eq_true, List.mem_range] at hs
  obtain ⟨⟨h1, h2, h3⟩, h4⟩ := hs
  cases c with
  | inl x =>
    obtain ⟨g1, g2, g3, g4⟩ := h
    exact ⟨h1.symm.trans g1, h2.symm.trans g2, h3.symm.trans g3, fun j hj => by
      rw [← h4 j (by rw [← h3, g3]; exact hj)]
      exact g4 j hj⟩
  | inr x =>
    obtain ⟨g1, g2, g3, g4⟩ := h
    exact ⟨h1.symm.trans g1, h2.symm.trans g2, h3.symm.trans g3, fun j v hv => by
      rw [← h4 j (by rw [← h3, g3]; exact (List.getElem?_eq_some_iff.mp hv).1)]
      exact g4 j v hv⟩
def qsameW (w v : qW) : Bool := decide (w.2.1 = v.2.1 ∧ w.2.2.1 = v.2.2.1 ∧ w.2.2.2 = v.2.2.2) && (List.range (v.2.1 - 261)).all (fun i => qsameO (w.1 (261 + i)) (v.1 (261 + i)))
theorem qsameW_ok {E : mE} {w v : qW} {h : mH} (hl : E.length = 261) (hs : qsameW w v = true) (hw : qWr E w h) : qWr E v h := by
  unfold qsameW at hs
  simp only [Bool.and_eq_true, decide_eq_true_eq, List.all_eq_true, List.mem_range] at hs
  obtain ⟨⟨h1, h2, h3⟩, h4⟩ := hs
  obtain ⟨g1, g2, g3, g4⟩ := hw
  refine ⟨h1.symm.trans g1, h2.symm.trans g2, h3.symm.trans g3, fun i o hi => ?_⟩
  have h9 := g4 i o hi
  have hlt := (List.getElem?_eq_some_iff.mp hi).1
  rw [hl] at h9 ⊢
  exact qsameO_ok (h4 i (by omega)) h9
def qsameL (l k : qL) : Bool := (List.range 9).all (fun j => decide (l j = k j))
/-- the walk to the loop's head ends at the state above -/
noncomputable def qpreOk (r : Option (Nat × qL × List qV × qW)) : Bool := match r with
  | some (n, l, st, w) => decide (n = 3984) && (decide (st = []) && (qsameL l ql0 && qsameW w qw0))
  | none => false
def qany : qV := (0, 0, 4294967295)
def qbxL (L : Nat) : qX := (L, fun _ => qany)
noncomputable def qstart (bx : qX) : Option (Nat × qL × List qV × qW) := qwalkL 261 bx (qexec 261 bx 24) 28 4000 qLaw 0 (qargs 0 [(1, 0, 0)]) [] (fun _ => qh0no, 261, 0, 0)
noncomputable def qfuel (r : Option (Nat × qL × List qV × qW)) : Nat := match r with
  | some (n, _) => n
  | none => 0
